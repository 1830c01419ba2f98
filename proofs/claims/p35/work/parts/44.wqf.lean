/-! segments: the reference, on -/
theorem s_166 {h : zH} {Q : Option Value → zH → Prop} (a1 : Int32) (H : (∀ n, zQ n 166 4 [some (.ref 58), some (.int a1), some (.int (Int32.ofInt 0)), some (.int (Int32.ofInt 0))] [] h Q)) : zqm 166 [.ref 58, .int a1] h Q := by
  refine zqm_of zp_166 (fun n => ?_)
  have H := H n
  show zQ n 166 0 [some (.ref 58), some (.int a1), none, none] [] h Q
  refine zQ_seq 4 (pc' := 4) (L' := [some (.ref 58), some (.int a1), some (.int (Int32.ofInt 0)), some (.int (Int32.ofInt 0))]) (S' := []) (h' := h) zp_166 rfl ?_
  exact H
theorem s_166_4 {n : Nat} {h : zH} {Q : Option Value → zH → Prop} (x1 : Int32) (x2 : Int32) (x3 : Int32) (H : (((h.1 64 57).toInt ≤ x3.toInt → Q (some (.int x2)) h) ∧ (¬ ((h.1 64 57).toInt ≤ x3.toInt) → zqm 164 [.ref 58, .int x3, .int x1] h (fun rv h2 => zri rv (fun v2 => zQ n 166 4 [some (.ref 58), some (.int x1), some (.int (x2 + v2)), some (.int (x3 + Int32.ofInt 1))] [] h2 Q))))) : zQ (n + 1) 166 4 [some (.ref 58), some (.int x1), some (.int x2), some (.int x3)] [] h Q := by
  refine zQ_seqL 3 (pc' := 11) (L' := [some (.ref 58), some (.int x1), some (.int x2), some (.int x3)]) (S' := [.int (Int32.ofInt 57), .ref 64, .int x3]) (h' := h) zp_166 rfl ?_
  refine zQ_ialk 57 (N := 62) (f := h.1 64) zp_166 rfl rfl kc_57 ?_
  refine zQ_ic zp_166 rfl (t := 30) rfl (i := x3.toInt) (j := (h.1 64 57).toInt) rfl rfl (fun c1 => ?_) (fun c1 => ?_)
  · refine zQ_seq 1 (pc' := 31) (L' := [some (.ref 58), some (.int x1), some (.int x2), some (.int x3)]) (S' := [.int x2]) (h' := h) zp_166 rfl ?_
    exact zQ_retI zp_166 rfl (H.1 c1)
  · refine zQ_seq 4 (pc' := 19) (L' := [some (.ref 58), some (.int x1), some (.int x2), some (.int x3)]) (S' := [.int x1, .int x3, .ref 58, .int x2]) (h' := h) zp_166 rfl ?_
    refine zQ_cvI (M' := 164) (as := [.ref 58, .int x3, .int x1]) (S' := [.int x2]) zp_166 rfl rfl zp_164 (Or.inl rfl) rfl rfl (zqm_imp (H.2 c1) (fun rv h2 r2 => zri_imp r2 (fun v2 r2' => ?_)))
    refine zQ_seq 3 (pc' := 27) (L' := [some (.ref 58), some (.int x1), some (.int (x2 + v2)), some (.int (x3 + Int32.ofInt 1))]) (S' := []) (h' := h2) zp_166 rfl ?_
    refine zQ_goto zp_166 rfl (t := 4) rfl ?_
    exact r2'
theorem s_167_58_64 {h : zH} {Q : Option Value → zH → Prop} (a2 : Int32) (a3 : Int32) (H : (0 ≤ ((Int32.ofInt 15) + a2).toInt → ((Int32.ofInt 15) + a2).toInt < 62 → ((((zSet h 64 ((Int32.ofInt 15) + a2).toInt.toNat a3).1 64 58).toInt = 0 → Q none (zSet h 64 ((Int32.ofInt 15) + a2).toInt.toNat a3)) ∧ (¬ (((zSet h 64 ((Int32.ofInt 15) + a2).toInt.toNat a3).1 64 58).toInt = 0) → (0 ≤ ((Int32.ofInt 15) + ((a2 + ((zSet h 64 ((Int32.ofInt 15) + a2).toInt.toNat a3).1 64 58)) - (a2 + ((zSet h 64 ((Int32.ofInt 15) + a2).toInt.toNat a3).1 64 58)) / (Int32.ofInt 15) * (Int32.ofInt 15))).toInt → ((Int32.ofInt 15) + ((a2 + ((zSet h 64 ((Int32.ofInt 15) + a2).toInt.toNat a3).1 64 58)) - (a2 + ((zSet h 64 ((Int32.ofInt 15) + a2).toInt.toNat a3).1 64 58)) / (Int32.ofInt 15) * (Int32.ofInt 15))).toInt < 62 → (0 ≤ ((Int32.ofInt 15) + ((a2 + ((zSet h 64 ((Int32.ofInt 15) + a2).toInt.toNat a3).1 64 58)) - (a2 + ((zSet h 64 ((Int32.ofInt 15) + a2).toInt.toNat a3).1 64 58)) / (Int32.ofInt 15) * (Int32.ofInt 15))).toInt → ((Int32.ofInt 15) + ((a2 + ((zSet h 64 ((Int32.ofInt 15) + a2).toInt.toNat a3).1 64 58)) - (a2 + ((zSet h 64 ((Int32.ofInt 15) + a2).toInt.toNat a3).1 64 58)) / (Int32.ofInt 15) * (Int32.ofInt 15))).toInt < 62 → Q none (zSet (zSet h 64 ((Int32.ofInt 15) + a2).toInt.toNat a3) 64 ((Int32.ofInt 15) + ((a2 + ((zSet h 64 ((Int32.ofInt 15) + a2).toInt.toNat a3).1 64 58)) - (a2 + ((zSet h 64 ((Int32.ofInt 15) + a2).toInt.toNat a3).1 64 58)) / (Int32.ofInt 15) * (Int32.ofInt 15))).toInt.toNat ((((zSet h 64 ((Int32.ofInt 15) + a2).toInt.toNat a3).1 64 ((Int32.ofInt 15) + ((a2 + ((zSet h 64 ((Int32.ofInt 15) + a2).toInt.toNat a3).1 64 58)) - (a2 + ((zSet h 64 ((Int32.ofInt 15) + a2).toInt.toNat a3).1 64 58)) / (Int32.ofInt 15) * (Int32.ofInt 15))).toInt.toNat) + ((zSet h 64 ((Int32.ofInt 15) + a2).toInt.toNat a3).1 64 59)) - (((zSet h 64 ((Int32.ofInt 15) + a2).toInt.toNat a3).1 64 ((Int32.ofInt 15) + ((a2 + ((zSet h 64 ((Int32.ofInt 15) + a2).toInt.toNat a3).1 64 58)) - (a2 + ((zSet h 64 ((Int32.ofInt 15) + a2).toInt.toNat a3).1 64 58)) / (Int32.ofInt 15) * (Int32.ofInt 15))).toInt.toNat) + ((zSet h 64 ((Int32.ofInt 15) + a2).toInt.toNat a3).1 64 59)) / (Int32.ofInt 4) * (Int32.ofInt 4))))))))) : zqm 167 [.ref 58, .ref 64, .int a2, .int a3] h Q := by
  refine zqm_of zp_167 (fun n => ?_)
  show zQ n 167 0 [some (.ref 58), some (.ref 64), some (.int a2), some (.int a3), none] [] h Q
  refine zQ_seq 5 (pc' := 6) (L' := [some (.ref 58), some (.ref 64), some (.int a2), some (.int a3), none]) (S' := [.int a3, .int ((Int32.ofInt 15) + a2), .ref 64]) (h' := h) zp_167 rfl ?_
  refine zQ_ias (N := 62) zp_167 rfl rfl rfl (fun b1 b1' => ?_)
  refine zQ_seq 2 (pc' := 10) (L' := [some (.ref 58), some (.ref 64), some (.int a2), some (.int a3), none]) (S' := [.int (Int32.ofInt 58), .ref 64]) (h' := (zSet h 64 ((Int32.ofInt 15) + a2).toInt.toNat a3)) zp_167 rfl ?_
  refine zQ_ialk 58 (N := 62) (f := (zSet h 64 ((Int32.ofInt 15) + a2).toInt.toNat a3).1 64) zp_167 rfl rfl kc_58 ?_
  refine zQ_if zp_167 rfl (t := 46) rfl (i := ((zSet h 64 ((Int32.ofInt 15) + a2).toInt.toNat a3).1 64 58).toInt) rfl (fun c2 => ?_) (fun c2 => ?_)
  · exact zQ_retV zp_167 rfl ((H b1 b1').1 c2)
  · refine zQ_seq 3 (pc' := 18) (L' := [some (.ref 58), some (.ref 64), some (.int a2), some (.int a3), none]) (S' := [.int (Int32.ofInt 58), .ref 64, .int a2]) (h' := (zSet h 64 ((Int32.ofInt 15) + a2).toInt.toNat a3)) zp_167 rfl ?_
    refine zQ_ialk 58 (N := 62) (f := (zSet h 64 ((Int32.ofInt 15) + a2).toInt.toNat a3).1 64) zp_167 rfl rfl kc_58 ?_
    refine zQ_seq 2 (pc' := 22) (L' := [some (.ref 58), some (.ref 64), some (.int a2), some (.int a3), none]) (S' := [.int (Int32.ofInt 15), .int (a2 + ((zSet h 64 ((Int32.ofInt 15) + a2).toInt.toNat a3).1 64 58))]) (h' := (zSet h 64 ((Int32.ofInt 15) + a2).toInt.toNat a3)) zp_167 rfl ?_
    refine zQ_rem zp_167 rfl (fun _ => ?_)
    refine zQ_seq 9 (pc' := 37) (L' := [some (.ref 58), some (.ref 64), some (.int a2), some (.int a3), some (.int ((a2 + ((zSet h 64 ((Int32.ofInt 15) + a2).toInt.toNat a3).1 64 58)) - (a2 + ((zSet h 64 ((Int32.ofInt 15) + a2).toInt.toNat a3).1 64 58)) / (Int32.ofInt 15) * (Int32.ofInt 15)))]) (S' := [.int ((Int32.ofInt 15) + ((a2 + ((zSet h 64 ((Int32.ofInt 15) + a2).toInt.toNat a3).1 64 58)) - (a2 + ((zSet h 64 ((Int32.ofInt 15) + a2).toInt.toNat a3).1 64 58)) / (Int32.ofInt 15) * (Int32.ofInt 15))), .ref 64, .int ((Int32.ofInt 15) + ((a2 + ((zSet h 64 ((Int32.ofInt 15) + a2).toInt.toNat a3).1 64 58)) - (a2 + ((zSet h 64 ((Int32.ofInt 15) + a2).toInt.toNat a3).1 64 58)) / (Int32.ofInt 15) * (Int32.ofInt 15))), .ref 64]) (h' := (zSet h 64 ((Int32.ofInt 15) + a2).toInt.toNat a3)) zp_167 rfl ?_
    refine zQ_ial (N := 62) (f := (zSet h 64 ((Int32.ofInt 15) + a2).toInt.toNat a3).1 64) zp_167 rfl rfl rfl (fun b3 b3' => ?_)
    refine zQ_seq 2 (pc' := 41) (L' := [some (.ref 58), some (.ref 64), some (.int a2), some (.int a3), some (.int ((a2 + ((zSet h 64 ((Int32.ofInt 15) + a2).toInt.toNat a3).1 64 58)) - (a2 + ((zSet h 64 ((Int32.ofInt 15) + a2).toInt.toNat a3).1 64 58)) / (Int32.ofInt 15) * (Int32.ofInt 15)))]) (S' := [.int (Int32.ofInt 59), .ref 64, .int ((zSet h 64 ((Int32.ofInt 15) + a2).toInt.toNat a3).1 64 ((Int32.ofInt 15) + ((a2 + ((zSet h 64 ((Int32.ofInt 15) + a2).toInt.toNat a3).1 64 58)) - (a2 + ((zSet h 64 ((Int32.ofInt 15) + a2).toInt.toNat a3).1 64 58)) / (Int32.ofInt 15) * (Int32.ofInt 15))).toInt.toNat), .int ((Int32.ofInt 15) + ((a2 + ((zSet h 64 ((Int32.ofInt 15) + a2).toInt.toNat a3).1 64 58)) - (a2 + ((zSet h 64 ((Int32.ofInt 15) + a2).toInt.toNat a3).1 64 58)) / (Int32.ofInt 15) * (Int32.ofInt 15))), .ref 64]) (h' := (zSet h 64 ((Int32.ofInt 15) + a2).toInt.toNat a3)) zp_167 rfl ?_
    refine zQ_ialk 59 (N := 62) (f := (zSet h 64 ((Int32.ofInt 15) + a2).toInt.toNat a3).1 64) zp_167 rfl rfl kc_59 ?_
    refine zQ_seq 2 (pc' := 44) (L' := [some (.ref 58), some (.ref 64), some (.int a2), some (.int a3), some (.int ((a2 + ((zSet h 64 ((Int32.ofInt 15) + a2).toInt.toNat a3).1 64 58)) - (a2 + ((zSet h 64 ((Int32.ofInt 15) + a2).toInt.toNat a3).1 64 58)) / (Int32.ofInt 15) * (Int32.ofInt 15)))]) (S' := [.int (Int32.ofInt 4), .int (((zSet h 64 ((Int32.ofInt 15) + a2).toInt.toNat a3).1 64 ((Int32.ofInt 15) + ((a2 + ((zSet h 64 ((Int32.ofInt 15) + a2).toInt.toNat a3).1 64 58)) - (a2 + ((zSet h 64 ((Int32.ofInt 15) + a2).toInt.toNat a3).1 64 58)) / (Int32.ofInt 15) * (Int32.ofInt 15))).toInt.toNat) + ((zSet h 64 ((Int32.ofInt 15) + a2).toInt.toNat a3).1 64 59)), .int ((Int32.ofInt 15) + ((a2 + ((zSet h 64 ((Int32.ofInt 15) + a2).toInt.toNat a3).1 64 58)) - (a2 + ((zSet h 64 ((Int32.ofInt 15) + a2).toInt.toNat a3).1 64 58)) / (Int32.ofInt 15) * (Int32.ofInt 15))), .ref 64]) (h' := (zSet h 64 ((Int32.ofInt 15) + a2).toInt.toNat a3)) zp_167 rfl ?_
    refine zQ_rem zp_167 rfl (fun _ => ?_)
    refine zQ_ias (N := 62) zp_167 rfl rfl rfl (fun b4 b4' => ?_)
    exact zQ_retV zp_167 rfl ((((H b1 b1').2 c2) b3 b3') b4 b4')
theorem s_167_58_67 {h : zH} {Q : Option Value → zH → Prop} (a2 : Int32) (a3 : Int32) (H : (0 ≤ ((Int32.ofInt 15) + a2).toInt → ((Int32.ofInt 15) + a2).toInt < 62 → ((((zSet h 67 ((Int32.ofInt 15) + a2).toInt.toNat a3).1 67 58).toInt = 0 → Q none (zSet h 67 ((Int32.ofInt 15) + a2).toInt.toNat a3)) ∧ (¬ (((zSet h 67 ((Int32.ofInt 15) + a2).toInt.toNat a3).1 67 58).toInt = 0) → (0 ≤ ((Int32.ofInt 15) + ((a2 + ((zSet h 67 ((Int32.ofInt 15) + a2).toInt.toNat a3).1 67 58)) - (a2 + ((zSet h 67 ((Int32.ofInt 15) + a2).toInt.toNat a3).1 67 58)) / (Int32.ofInt 15) * (Int32.ofInt 15))).toInt → ((Int32.ofInt 15) + ((a2 + ((zSet h 67 ((Int32.ofInt 15) + a2).toInt.toNat a3).1 67 58)) - (a2 + ((zSet h 67 ((Int32.ofInt 15) + a2).toInt.toNat a3).1 67 58)) / (Int32.ofInt 15) * (Int32.ofInt 15))).toInt < 62 → (0 ≤ ((Int32.ofInt 15) + ((a2 + ((zSet h 67 ((Int32.ofInt 15) + a2).toInt.toNat a3).1 67 58)) - (a2 + ((zSet h 67 ((Int32.ofInt 15) + a2).toInt.toNat a3).1 67 58)) / (Int32.ofInt 15) * (Int32.ofInt 15))).toInt → ((Int32.ofInt 15) + ((a2 + ((zSet h 67 ((Int32.ofInt 15) + a2).toInt.toNat a3).1 67 58)) - (a2 + ((zSet h 67 ((Int32.ofInt 15) + a2).toInt.toNat a3).1 67 58)) / (Int32.ofInt 15) * (Int32.ofInt 15))).toInt < 62 → Q none (zSet (zSet h 67 ((Int32.ofInt 15) + a2).toInt.toNat a3) 67 ((Int32.ofInt 15) + ((a2 + ((zSet h 67 ((Int32.ofInt 15) + a2).toInt.toNat a3).1 67 58)) - (a2 + ((zSet h 67 ((Int32.ofInt 15) + a2).toInt.toNat a3).1 67 58)) / (Int32.ofInt 15) * (Int32.ofInt 15))).toInt.toNat ((((zSet h 67 ((Int32.ofInt 15) + a2).toInt.toNat a3).1 67 ((Int32.ofInt 15) + ((a2 + ((zSet h 67 ((Int32.ofInt 15) + a2).toInt.toNat a3).1 67 58)) - (a2 + ((zSet h 67 ((Int32.ofInt 15) + a2).toInt.toNat a3).1 67 58)) / (Int32.ofInt 15) * (Int32.ofInt 15))).toInt.toNat) + ((zSet h 67 ((Int32.ofInt 15) + a2).toInt.toNat a3).1 67 59)) - (((zSet h 67 ((Int32.ofInt 15) + a2).toInt.toNat a3).1 67 ((Int32.ofInt 15) + ((a2 + ((zSet h 67 ((Int32.ofInt 15) + a2).toInt.toNat a3).1 67 58)) - (a2 + ((zSet h 67 ((Int32.ofInt 15) + a2).toInt.toNat a3).1 67 58)) / (Int32.ofInt 15) * (Int32.ofInt 15))).toInt.toNat) + ((zSet h 67 ((Int32.ofInt 15) + a2).toInt.toNat a3).1 67 59)) / (Int32.ofInt 4) * (Int32.ofInt 4))))))))) : zqm 167 [.ref 58, .ref 67, .int a2, .int a3] h Q := by
  refine zqm_of zp_167 (fun n => ?_)
  show zQ n 167 0 [some (.ref 58), some (.ref 67), some (.int a2), some (.int a3), none] [] h Q
  refine zQ_seq 5 (pc' := 6) (L' := [some (.ref 58), some (.ref 67), some (.int a2), some (.int a3), none]) (S' := [.int a3, .int ((Int32.ofInt 15) + a2), .ref 67]) (h' := h) zp_167 rfl ?_
  refine zQ_ias (N := 62) zp_167 rfl rfl rfl (fun b1 b1' => ?_)
  refine zQ_seq 2 (pc' := 10) (L' := [some (.ref 58), some (.ref 67), some (.int a2), some (.int a3), none]) (S' := [.int (Int32.ofInt 58), .ref 67]) (h' := (zSet h 67 ((Int32.ofInt 15) + a2).toInt.toNat a3)) zp_167 rfl ?_
  refine zQ_ialk 58 (N := 62) (f := (zSet h 67 ((Int32.ofInt 15) + a2).toInt.toNat a3).1 67) zp_167 rfl rfl kc_58 ?_
  refine zQ_if zp_167 rfl (t := 46) rfl (i := ((zSet h 67 ((Int32.ofInt 15) + a2).toInt.toNat a3).1 67 58).toInt) rfl (fun c2 => ?_) (fun c2 => ?_)
  · exact zQ_retV zp_167 rfl ((H b1 b1').1 c2)
  · refine zQ_seq 3 (pc' := 18) (L' := [some (.ref 58), some (.ref 67), some (.int a2), some (.int a3), none]) (S' := [.int (Int32.ofInt 58), .ref 67, .int a2]) (h' := (zSet h 67 ((Int32.ofInt 15) + a2).toInt.toNat a3)) zp_167 rfl ?_
    refine zQ_ialk 58 (N := 62) (f := (zSet h 67 ((Int32.ofInt 15) + a2).toInt.toNat a3).1 67) zp_167 rfl rfl kc_58 ?_
    refine zQ_seq 2 (pc' := 22) (L' := [some (.ref 58), some (.ref 67), some (.int a2), some (.int a3), none]) (S' := [.int (Int32.ofInt 15), .int (a2 + ((zSet h 67 ((Int32.ofInt 15) + a2).toInt.toNat a3).1 67 58))]) (h' := (zSet h 67 ((Int32.ofInt 15) + a2).toInt.toNat a3)) zp_167 rfl ?_
    refine zQ_rem zp_167 rfl (fun _ => ?_)
    refine zQ_seq 9 (pc' := 37) (L' := [some (.ref 58), some (.ref 67), some (.int a2), some (.int a3), some (.int ((a2 + ((zSet h 67 ((Int32.ofInt 15) + a2).toInt.toNat a3).1 67 58)) - (a2 + ((zSet h 67 ((Int32.ofInt 15) + a2).toInt.toNat a3).1 67 58)) / (Int32.ofInt 15) * (Int32.ofInt 15)))]) (S' := [.int ((Int32.ofInt 15) + ((a2 + ((zSet h 67 ((Int32.ofInt 15) + a2).toInt.toNat a3).1 67 58)) - (a2 + ((zSet h 67 ((Int32.ofInt 15) + a2).toInt.toNat a3).1 67 58)) / (Int32.ofInt 15) * (Int32.ofInt 15))), .ref 67, .int ((Int32.ofInt 15) + ((a2 + ((zSet h 67 ((Int32.ofInt 15) + a2).toInt.toNat a3).1 67 58)) - (a2 + ((zSet h 67 ((Int32.ofInt 15) + a2).toInt.toNat a3).1 67 58)) / (Int32.ofInt 15) * (Int32.ofInt 15))), .ref 67]) (h' := (zSet h 67 ((Int32.ofInt 15) + a2).toInt.toNat a3)) zp_167 rfl ?_
    refine zQ_ial (N := 62) (f := (zSet h 67 ((Int32.ofInt 15) + a2).toInt.toNat a3).1 67) zp_167 rfl rfl rfl (fun b3 b3' => ?_)
    refine zQ_seq 2 (pc' := 41) (L' := [some (.ref 58), some (.ref 67), some (.int a2), some (.int a3), some (.int ((a2 + ((zSet h 67 ((Int32.ofInt 15) + a2).toInt.toNat a3).1 67 58)) - (a2 + ((zSet h 67 ((Int32.ofInt 15) + a2).toInt.toNat a3).1 67 58)) / (Int32.ofInt 15) * (Int32.ofInt 15)))]) (S' := [.int (Int32.ofInt 59), .ref 67, .int ((zSet h 67 ((Int32.ofInt 15) + a2).toInt.toNat a3).1 67 ((Int32.ofInt 15) + ((a2 + ((zSet h 67 ((Int32.ofInt 15) + a2).toInt.toNat a3).1 67 58)) - (a2 + ((zSet h 67 ((Int32.ofInt 15) + a2).toInt.toNat a3).1 67 58)) / (Int32.ofInt 15) * (Int32.ofInt 15))).toInt.toNat), .int ((Int32.ofInt 15) + ((a2 + ((zSet h 67 ((Int32.ofInt 15) + a2).toInt.toNat a3).1 67 58)) - (a2 + ((zSet h 67 ((Int32.ofInt 15) + a2).toInt.toNat a3).1 67 58)) / (Int32.ofInt 15) * (Int32.ofInt 15))), .ref 67]) (h' := (zSet h 67 ((Int32.ofInt 15) + a2).toInt.toNat a3)) zp_167 rfl ?_
    refine zQ_ialk 59 (N := 62) (f := (zSet h 67 ((Int32.ofInt 15) + a2).toInt.toNat a3).1 67) zp_167 rfl rfl kc_59 ?_
    refine zQ_seq 2 (pc' := 44) (L' := [some (.ref 58), some (.ref 67), some (.int a2), some (.int a3), some (.int ((a2 + ((zSet h 67 ((Int32.ofInt 15) + a2).toInt.toNat a3).1 67 58)) - (a2 + ((zSet h 67 ((Int32.ofInt 15) + a2).toInt.toNat a3).1 67 58)) / (Int32.ofInt 15) * (Int32.ofInt 15)))]) (S' := [.int (Int32.ofInt 4), .int (((zSet h 67 ((Int32.ofInt 15) + a2).toInt.toNat a3).1 67 ((Int32.ofInt 15) + ((a2 + ((zSet h 67 ((Int32.ofInt 15) + a2).toInt.toNat a3).1 67 58)) - (a2 + ((zSet h 67 ((Int32.ofInt 15) + a2).toInt.toNat a3).1 67 58)) / (Int32.ofInt 15) * (Int32.ofInt 15))).toInt.toNat) + ((zSet h 67 ((Int32.ofInt 15) + a2).toInt.toNat a3).1 67 59)), .int ((Int32.ofInt 15) + ((a2 + ((zSet h 67 ((Int32.ofInt 15) + a2).toInt.toNat a3).1 67 58)) - (a2 + ((zSet h 67 ((Int32.ofInt 15) + a2).toInt.toNat a3).1 67 58)) / (Int32.ofInt 15) * (Int32.ofInt 15))), .ref 67]) (h' := (zSet h 67 ((Int32.ofInt 15) + a2).toInt.toNat a3)) zp_167 rfl ?_
    refine zQ_rem zp_167 rfl (fun _ => ?_)
    refine zQ_ias (N := 62) zp_167 rfl rfl rfl (fun b4 b4' => ?_)
    exact zQ_retV zp_167 rfl ((((H b1 b1').2 c2) b3 b3') b4 b4')
theorem s_168 {h : zH} {Q : Option Value → zH → Prop} (a1 : Int32) (a2 : Int32) (H : zqm 150 [.ref 58] h (fun rv h1 => zri rv (fun v1 => ((¬ v1.toInt = 0 → zqm 151 [.int a1] h1 (fun rv h3 => zri rv (fun v3 => ((v3.toInt = 0 → Q (some (.int (-1000001 : Int32))) h3) ∧ (¬ (v3.toInt = 0) → zqm 121 [.int a2, .int (Int32.ofInt 0), .int (Int32.ofInt 3)] h3 (fun rv h5 => zri rv (fun v5 => ((¬ v5.toInt = 0 → (0 ≤ ((Int32.ofInt 15) + a1).toInt → ((Int32.ofInt 15) + a1).toInt < 62 → ((¬ (h5.1 64 ((Int32.ofInt 15) + a1).toInt.toNat).toInt = a2.toInt → zqm 148 [.ref 58] h5 (fun _ h9 => zqm 167 [.ref 58, .ref 64, .int a1, .int a2] h9 (fun _ h10 => zqm 156 [.ref 58, .ref 64] h10 (fun rv h11 => zri rv (fun v11 => Q (some (.int v11)) h11))))) ∧ (¬ (¬ (h5.1 64 ((Int32.ofInt 15) + a1).toInt.toNat).toInt = a2.toInt) → Q (some (.int (-1000002 : Int32))) h5)))) ∧ (¬ (¬ v5.toInt = 0) → Q (some (.int (-1000001 : Int32))) h5))))))))) ∧ (¬ (¬ v1.toInt = 0) → Q (some (.int (-1000002 : Int32))) h1))))) : zqm 168 [.ref 58, .int a1, .int a2] h Q := by
  refine zqm_of zp_168 (fun n => ?_)
  show zQ n 168 0 [some (.ref 58), some (.int a1), some (.int a2)] [] h Q
  refine zQ_seq 1 (pc' := 1) (L' := [some (.ref 58), some (.int a1), some (.int a2)]) (S' := [.ref 58]) (h' := h) zp_168 rfl ?_
  refine zQ_cvI (M' := 150) (as := [.ref 58]) (S' := []) zp_168 rfl rfl zp_150 (Or.inr rfl) rfl rfl (zqm_imp H (fun rv h1 r1 => zri_imp r1 (fun v1 r1' => ?_)))
  refine zQ_if zp_168 rfl (t := 10) rfl (i := v1.toInt) rfl (fun c2 => ?_) (fun c2 => ?_)
  · refine zQ_seq 1 (pc' := 11) (L' := [some (.ref 58), some (.int a1), some (.int a2)]) (S' := [.int a1]) (h' := h1) zp_168 rfl ?_
    refine zQ_csI (M' := 151) (as := [.int a1]) (S' := []) zp_168 rfl rfl rfl zp_151 (Or.inr rfl) rfl rfl (zqm_imp (r1'.1 c2) (fun rv h3 r3 => zri_imp r3 (fun v3 r3' => ?_)))
    refine zQ_if zp_168 rfl (t := 26) rfl (i := v3.toInt) rfl (fun c4 => ?_) (fun c4 => ?_)
    · refine zQ_seq 1 (pc' := 28) (L' := [some (.ref 58), some (.int a1), some (.int a2)]) (S' := [.int (-1000001 : Int32)]) (h' := h3) zp_168 rfl ?_
      exact zQ_retI zp_168 rfl (r3'.1 c4)
    · refine zQ_seq 3 (pc' := 20) (L' := [some (.ref 58), some (.int a1), some (.int a2)]) (S' := [.int (Int32.ofInt 3), .int (Int32.ofInt 0), .int a2]) (h' := h3) zp_168 rfl ?_
      refine zQ_csI (M' := 121) (as := [.int a2, .int (Int32.ofInt 0), .int (Int32.ofInt 3)]) (S' := []) zp_168 rfl rfl rfl zp_121 (Or.inr rfl) rfl rfl (zqm_imp (r3'.2 c4) (fun rv h5 r5 => zri_imp r5 (fun v5 r5' => ?_)))
      refine zQ_if zp_168 rfl (t := 29) rfl (i := v5.toInt) rfl (fun c6 => ?_) (fun c6 => ?_)
      · refine zQ_seq 5 (pc' := 37) (L' := [some (.ref 58), some (.int a1), some (.int a2)]) (S' := [.int ((Int32.ofInt 15) + a1), .ref 64]) (h' := h5) zp_168 rfl ?_
        refine zQ_ial (N := 62) (f := h5.1 64) zp_168 rfl rfl rfl (fun b7 b7' => ?_)
        refine zQ_seq 1 (pc' := 39) (L' := [some (.ref 58), some (.int a1), some (.int a2)]) (S' := [.int a2, .int (h5.1 64 ((Int32.ofInt 15) + a1).toInt.toNat)]) (h' := h5) zp_168 rfl ?_
        refine zQ_ic zp_168 rfl (t := 45) rfl (i := (h5.1 64 ((Int32.ofInt 15) + a1).toInt.toNat).toInt) (j := a2.toInt) rfl rfl (fun c8 => ?_) (fun c8 => ?_)
        · refine zQ_seq 1 (pc' := 46) (L' := [some (.ref 58), some (.int a1), some (.int a2)]) (S' := [.ref 58]) (h' := h5) zp_168 rfl ?_
          refine zQ_cvV (M' := 148) (as := [.ref 58]) (S' := []) zp_168 rfl rfl zp_148 rfl rfl rfl (zqm_imp (((r5'.1 c6) b7 b7').1 c8) (fun rv h9 r9 => ?_))
          refine zQ_seq 5 (pc' := 56) (L' := [some (.ref 58), some (.int a1), some (.int a2)]) (S' := [.int a2, .int a1, .ref 64, .ref 58]) (h' := h9) zp_168 rfl ?_
          refine zQ_cvV (M' := 167) (as := [.ref 58, .ref 64, .int a1, .int a2]) (S' := []) zp_168 rfl rfl zp_167 rfl rfl rfl (zqm_imp r9 (fun rv h10 r10 => ?_))
          refine zQ_seq 3 (pc' := 64) (L' := [some (.ref 58), some (.int a1), some (.int a2)]) (S' := [.ref 64, .ref 58]) (h' := h10) zp_168 rfl ?_
          refine zQ_cvI (M' := 156) (as := [.ref 58, .ref 64]) (S' := []) zp_168 rfl rfl zp_156 (Or.inl rfl) rfl rfl (zqm_imp r10 (fun rv h11 r11 => zri_imp r11 (fun v11 r11' => ?_)))
          exact zQ_retI zp_168 rfl r11'
        · refine zQ_seq 1 (pc' := 44) (L' := [some (.ref 58), some (.int a1), some (.int a2)]) (S' := [.int (-1000002 : Int32)]) (h' := h5) zp_168 rfl ?_
          exact zQ_retI zp_168 rfl (((r5'.1 c6) b7 b7').2 c8)
      · refine zQ_seq 1 (pc' := 28) (L' := [some (.ref 58), some (.int a1), some (.int a2)]) (S' := [.int (-1000001 : Int32)]) (h' := h5) zp_168 rfl ?_
        exact zQ_retI zp_168 rfl (r5'.2 c6)
  · refine zQ_seq 1 (pc' := 9) (L' := [some (.ref 58), some (.int a1), some (.int a2)]) (S' := [.int (-1000002 : Int32)]) (h' := h1) zp_168 rfl ?_
    exact zQ_retI zp_168 rfl (r1'.2 c2)
theorem s_169_64 {h : zH} {Q : Option Value → zH → Prop} (a1 : Int32) (H : (0 ≤ ((Int32.ofInt 0) + a1).toInt → ((Int32.ofInt 0) + a1).toInt < 62 → (0 ≤ ((Int32.ofInt 0) + a1).toInt → ((Int32.ofInt 0) + a1).toInt < 62 → Q none (zSet h 64 ((Int32.ofInt 0) + a1).toInt.toNat (((h.1 64 ((Int32.ofInt 0) + a1).toInt.toNat) + (Int32.ofInt 1)) - ((h.1 64 ((Int32.ofInt 0) + a1).toInt.toNat) + (Int32.ofInt 1)) / (Int32.ofInt 4) * (Int32.ofInt 4)))))) : zqm 169 [.ref 64, .int a1] h Q := by
  refine zqm_of zp_169 (fun n => ?_)
  show zQ n 169 0 [some (.ref 64), some (.int a1)] [] h Q
  refine zQ_seq 8 (pc' := 8) (L' := [some (.ref 64), some (.int a1)]) (S' := [.int ((Int32.ofInt 0) + a1), .ref 64, .int ((Int32.ofInt 0) + a1), .ref 64]) (h' := h) zp_169 rfl ?_
  refine zQ_ial (N := 62) (f := h.1 64) zp_169 rfl rfl rfl (fun b1 b1' => ?_)
  refine zQ_seq 3 (pc' := 12) (L' := [some (.ref 64), some (.int a1)]) (S' := [.int (Int32.ofInt 4), .int ((h.1 64 ((Int32.ofInt 0) + a1).toInt.toNat) + (Int32.ofInt 1)), .int ((Int32.ofInt 0) + a1), .ref 64]) (h' := h) zp_169 rfl ?_
  refine zQ_rem zp_169 rfl (fun _ => ?_)
  refine zQ_ias (N := 62) zp_169 rfl rfl rfl (fun b2 b2' => ?_)
  exact zQ_retV zp_169 rfl ((H b1 b1') b2 b2')
theorem s_169_67 {h : zH} {Q : Option Value → zH → Prop} (a1 : Int32) (H : (0 ≤ ((Int32.ofInt 0) + a1).toInt → ((Int32.ofInt 0) + a1).toInt < 62 → (0 ≤ ((Int32.ofInt 0) + a1).toInt → ((Int32.ofInt 0) + a1).toInt < 62 → Q none (zSet h 67 ((Int32.ofInt 0) + a1).toInt.toNat (((h.1 67 ((Int32.ofInt 0) + a1).toInt.toNat) + (Int32.ofInt 1)) - ((h.1 67 ((Int32.ofInt 0) + a1).toInt.toNat) + (Int32.ofInt 1)) / (Int32.ofInt 4) * (Int32.ofInt 4)))))) : zqm 169 [.ref 67, .int a1] h Q := by
  refine zqm_of zp_169 (fun n => ?_)
  show zQ n 169 0 [some (.ref 67), some (.int a1)] [] h Q
  refine zQ_seq 8 (pc' := 8) (L' := [some (.ref 67), some (.int a1)]) (S' := [.int ((Int32.ofInt 0) + a1), .ref 67, .int ((Int32.ofInt 0) + a1), .ref 67]) (h' := h) zp_169 rfl ?_
  refine zQ_ial (N := 62) (f := h.1 67) zp_169 rfl rfl rfl (fun b1 b1' => ?_)
  refine zQ_seq 3 (pc' := 12) (L' := [some (.ref 67), some (.int a1)]) (S' := [.int (Int32.ofInt 4), .int ((h.1 67 ((Int32.ofInt 0) + a1).toInt.toNat) + (Int32.ofInt 1)), .int ((Int32.ofInt 0) + a1), .ref 67]) (h' := h) zp_169 rfl ?_
  refine zQ_rem zp_169 rfl (fun _ => ?_)
  refine zQ_ias (N := 62) zp_169 rfl rfl rfl (fun b2 b2' => ?_)
  exact zQ_retV zp_169 rfl ((H b1 b1') b2 b2')
theorem s_170 {h : zH} {Q : Option Value → zH → Prop} (a1 : Int32) (H : zqm 150 [.ref 58] h (fun rv h1 => zri rv (fun v1 => ((¬ v1.toInt = 0 → zqm 151 [.int a1] h1 (fun rv h3 => zri rv (fun v3 => ((¬ v3.toInt = 0 → zqm 148 [.ref 58] h3 (fun _ h5 => zqm 169 [.ref 64, .int a1] h5 (fun _ h6 => (0 ≤ ((Int32.ofInt 0) + a1).toInt → ((Int32.ofInt 0) + a1).toInt < 62 → Q (some (.int (h6.1 64 ((Int32.ofInt 0) + a1).toInt.toNat))) h6)))) ∧ (¬ (¬ v3.toInt = 0) → Q (some (.int (-1000001 : Int32))) h3))))) ∧ (¬ (¬ v1.toInt = 0) → Q (some (.int (-1000002 : Int32))) h1))))) : zqm 170 [.ref 58, .int a1] h Q := by
  refine zqm_of zp_170 (fun n => ?_)
  show zQ n 170 0 [some (.ref 58), some (.int a1)] [] h Q
  refine zQ_seq 1 (pc' := 1) (L' := [some (.ref 58), some (.int a1)]) (S' := [.ref 58]) (h' := h) zp_170 rfl ?_
  refine zQ_cvI (M' := 150) (as := [.ref 58]) (S' := []) zp_170 rfl rfl zp_150 (Or.inr rfl) rfl rfl (zqm_imp H (fun rv h1 r1 => zri_imp r1 (fun v1 r1' => ?_)))
  refine zQ_if zp_170 rfl (t := 10) rfl (i := v1.toInt) rfl (fun c2 => ?_) (fun c2 => ?_)
  · refine zQ_seq 1 (pc' := 11) (L' := [some (.ref 58), some (.int a1)]) (S' := [.int a1]) (h' := h1) zp_170 rfl ?_
    refine zQ_csI (M' := 151) (as := [.int a1]) (S' := []) zp_170 rfl rfl rfl zp_151 (Or.inr rfl) rfl rfl (zqm_imp (r1'.1 c2) (fun rv h3 r3 => zri_imp r3 (fun v3 r3' => ?_)))
    refine zQ_if zp_170 rfl (t := 20) rfl (i := v3.toInt) rfl (fun c4 => ?_) (fun c4 => ?_)
    · refine zQ_seq 1 (pc' := 21) (L' := [some (.ref 58), some (.int a1)]) (S' := [.ref 58]) (h' := h3) zp_170 rfl ?_
      refine zQ_cvV (M' := 148) (as := [.ref 58]) (S' := []) zp_170 rfl rfl zp_148 rfl rfl rfl (zqm_imp (r3'.1 c4) (fun rv h5 r5 => ?_))
      refine zQ_seq 3 (pc' := 29) (L' := [some (.ref 58), some (.int a1)]) (S' := [.int a1, .ref 64]) (h' := h5) zp_170 rfl ?_
      refine zQ_csV (M' := 169) (as := [.ref 64, .int a1]) (S' := []) zp_170 rfl rfl rfl zp_169 rfl rfl rfl (zqm_imp r5 (fun rv h6 r6 => ?_))
      refine zQ_seq 5 (pc' := 39) (L' := [some (.ref 58), some (.int a1)]) (S' := [.int ((Int32.ofInt 0) + a1), .ref 64]) (h' := h6) zp_170 rfl ?_
      refine zQ_ial (N := 62) (f := h6.1 64) zp_170 rfl rfl rfl (fun b7 b7' => ?_)
      exact zQ_retI zp_170 rfl (r6 b7 b7')
    · refine zQ_seq 1 (pc' := 19) (L' := [some (.ref 58), some (.int a1)]) (S' := [.int (-1000001 : Int32)]) (h' := h3) zp_170 rfl ?_
      exact zQ_retI zp_170 rfl (r3'.2 c4)
  · refine zQ_seq 1 (pc' := 9) (L' := [some (.ref 58), some (.int a1)]) (S' := [.int (-1000002 : Int32)]) (h' := h1) zp_170 rfl ?_
    exact zQ_retI zp_170 rfl (r1'.2 c2)
theorem s_171_64 {h : zH} {Q : Option Value → zH → Prop} (a1 : Int32) (a2 : Int32) (H : (∀ n, zQ n 171 5 [some (.ref 64), some (.int a1), some (.int a2), some (.int (Int32.ofInt 0)), some (.int (Int32.ofInt 0))] [] h Q)) : zqm 171 [.ref 64, .int a1, .int a2] h Q := by
  refine zqm_of zp_171 (fun n => ?_)
  have H := H n
  show zQ n 171 0 [some (.ref 64), some (.int a1), some (.int a2), none, none] [] h Q
  refine zQ_seq 4 (pc' := 5) (L' := [some (.ref 64), some (.int a1), some (.int a2), some (.int (Int32.ofInt 0)), some (.int (Int32.ofInt 0))]) (S' := []) (h' := h) zp_171 rfl ?_
  exact H
theorem s_171_64_5 {n : Nat} {h : zH} {Q : Option Value → zH → Prop} (x1 : Int32) (x2 : Int32) (x3 : Int32) (x4 : Int32) (H : (((15 : Int) ≤ x4.toInt → Q (some (.int x3)) h) ∧ (¬ ((15 : Int) ≤ x4.toInt) → ((x2.toInt ≤ x3.toInt → Q (some (.int x3)) h) ∧ (¬ (x2.toInt ≤ x3.toInt) → (0 ≤ ((Int32.ofInt 30) + x4).toInt → ((Int32.ofInt 30) + x4).toInt < 62 → ((¬ (h.1 64 ((Int32.ofInt 30) + x4).toInt.toNat).toInt = x1.toInt → zQ n 171 5 [some (.ref 64), some (.int x1), some (.int x2), some (.int x3), some (.int (x4 + Int32.ofInt 1))] [] h Q) ∧ (¬ (¬ (h.1 64 ((Int32.ofInt 30) + x4).toInt.toNat).toInt = x1.toInt) → (0 ≤ ((Int32.ofInt 0) + x4).toInt → ((Int32.ofInt 0) + x4).toInt < 62 → (0 ≤ ((Int32.ofInt 15) + x4).toInt → ((Int32.ofInt 15) + x4).toInt < 62 → (((h.1 64 ((Int32.ofInt 0) + x4).toInt.toNat).toInt = (h.1 64 ((Int32.ofInt 15) + x4).toInt.toNat).toInt → zQ n 171 5 [some (.ref 64), some (.int x1), some (.int x2), some (.int x3), some (.int (x4 + Int32.ofInt 1))] [] h Q) ∧ (¬ ((h.1 64 ((Int32.ofInt 0) + x4).toInt.toNat).toInt = (h.1 64 ((Int32.ofInt 15) + x4).toInt.toNat).toInt) → (0 ≤ ((Int32.ofInt 15) + x4).toInt → ((Int32.ofInt 15) + x4).toInt < 62 → (0 ≤ ((Int32.ofInt 0) + x4).toInt → ((Int32.ofInt 0) + x4).toInt < 62 → zQ n 171 5 [some (.ref 64), some (.int x1), some (.int x2), some (.int (x3 + Int32.ofInt 1)), some (.int (x4 + Int32.ofInt 1))] [] (zSet h 64 ((Int32.ofInt 0) + x4).toInt.toNat (h.1 64 ((Int32.ofInt 15) + x4).toInt.toNat)) Q)))))))))))))) : zQ (n + 1) 171 5 [some (.ref 64), some (.int x1), some (.int x2), some (.int x3), some (.int x4)] [] h Q := by
  refine zQ_seqL 1 (pc' := 9) (L' := [some (.ref 64), some (.int x1), some (.int x2), some (.int x3), some (.int x4)]) (S' := [.int (Int32.ofInt 15), .int x4]) (h' := h) zp_171 rfl ?_
  refine zQ_ic zp_171 rfl (t := 66) rfl (i := x4.toInt) (j := (15 : Int)) rfl kc_15 (fun c1 => ?_) (fun c1 => ?_)
  · refine zQ_seq 1 (pc' := 67) (L' := [some (.ref 64), some (.int x1), some (.int x2), some (.int x3), some (.int x4)]) (S' := [.int x3]) (h' := h) zp_171 rfl ?_
    exact zQ_retI zp_171 rfl (H.1 c1)
  · refine zQ_seq 2 (pc' := 14) (L' := [some (.ref 64), some (.int x1), some (.int x2), some (.int x3), some (.int x4)]) (S' := [.int x2, .int x3]) (h' := h) zp_171 rfl ?_
    refine zQ_ic zp_171 rfl (t := 66) rfl (i := x3.toInt) (j := x2.toInt) rfl rfl (fun c2 => ?_) (fun c2 => ?_)
    · refine zQ_seq 1 (pc' := 67) (L' := [some (.ref 64), some (.int x1), some (.int x2), some (.int x3), some (.int x4)]) (S' := [.int x3]) (h' := h) zp_171 rfl ?_
      exact zQ_retI zp_171 rfl ((H.2 c1).1 c2)
    · refine zQ_seq 4 (pc' := 23) (L' := [some (.ref 64), some (.int x1), some (.int x2), some (.int x3), some (.int x4)]) (S' := [.int ((Int32.ofInt 30) + x4), .ref 64]) (h' := h) zp_171 rfl ?_
      refine zQ_ial (N := 62) (f := h.1 64) zp_171 rfl rfl rfl (fun b3 b3' => ?_)
      refine zQ_seq 1 (pc' := 25) (L' := [some (.ref 64), some (.int x1), some (.int x2), some (.int x3), some (.int x4)]) (S' := [.int x1, .int (h.1 64 ((Int32.ofInt 30) + x4).toInt.toNat)]) (h' := h) zp_171 rfl ?_
      refine zQ_ic zp_171 rfl (t := 60) rfl (i := (h.1 64 ((Int32.ofInt 30) + x4).toInt.toNat).toInt) (j := x1.toInt) rfl rfl (fun c4 => ?_) (fun c4 => ?_)
      · refine zQ_seq 1 (pc' := 63) (L' := [some (.ref 64), some (.int x1), some (.int x2), some (.int x3), some (.int (x4 + Int32.ofInt 1))]) (S' := []) (h' := h) zp_171 rfl ?_
        refine zQ_goto zp_171 rfl (t := 5) rfl ?_
        exact ((((H.2 c1).2 c2) b3 b3').1 c4)
      · refine zQ_seq 4 (pc' := 33) (L' := [some (.ref 64), some (.int x1), some (.int x2), some (.int x3), some (.int x4)]) (S' := [.int ((Int32.ofInt 0) + x4), .ref 64]) (h' := h) zp_171 rfl ?_
        refine zQ_ial (N := 62) (f := h.1 64) zp_171 rfl rfl rfl (fun b5 b5' => ?_)
        refine zQ_seq 4 (pc' := 40) (L' := [some (.ref 64), some (.int x1), some (.int x2), some (.int x3), some (.int x4)]) (S' := [.int ((Int32.ofInt 15) + x4), .ref 64, .int (h.1 64 ((Int32.ofInt 0) + x4).toInt.toNat)]) (h' := h) zp_171 rfl ?_
        refine zQ_ial (N := 62) (f := h.1 64) zp_171 rfl rfl rfl (fun b6 b6' => ?_)
        refine zQ_ic zp_171 rfl (t := 60) rfl (i := (h.1 64 ((Int32.ofInt 0) + x4).toInt.toNat).toInt) (j := (h.1 64 ((Int32.ofInt 15) + x4).toInt.toNat).toInt) rfl rfl (fun c7 => ?_) (fun c7 => ?_)
        · refine zQ_seq 1 (pc' := 63) (L' := [some (.ref 64), some (.int x1), some (.int x2), some (.int x3), some (.int (x4 + Int32.ofInt 1))]) (S' := []) (h' := h) zp_171 rfl ?_
          refine zQ_goto zp_171 rfl (t := 5) rfl ?_
          exact (((((((H.2 c1).2 c2) b3 b3').2 c4) b5 b5') b6 b6').1 c7)
        · refine zQ_seq 8 (pc' := 55) (L' := [some (.ref 64), some (.int x1), some (.int x2), some (.int x3), some (.int x4)]) (S' := [.int ((Int32.ofInt 15) + x4), .ref 64, .int ((Int32.ofInt 0) + x4), .ref 64]) (h' := h) zp_171 rfl ?_
          refine zQ_ial (N := 62) (f := h.1 64) zp_171 rfl rfl rfl (fun b8 b8' => ?_)
          refine zQ_ias (N := 62) zp_171 rfl rfl rfl (fun b9 b9' => ?_)
          refine zQ_seq 2 (pc' := 63) (L' := [some (.ref 64), some (.int x1), some (.int x2), some (.int (x3 + Int32.ofInt 1)), some (.int (x4 + Int32.ofInt 1))]) (S' := []) (h' := (zSet h 64 ((Int32.ofInt 0) + x4).toInt.toNat (h.1 64 ((Int32.ofInt 15) + x4).toInt.toNat))) zp_171 rfl ?_
          refine zQ_goto zp_171 rfl (t := 5) rfl ?_
          exact (((((((((H.2 c1).2 c2) b3 b3').2 c4) b5 b5') b6 b6').2 c7) b8 b8') b9 b9')
theorem s_171_67 {h : zH} {Q : Option Value → zH → Prop} (a1 : Int32) (a2 : Int32) (H : (∀ n, zQ n 171 5 [some (.ref 67), some (.int a1), some (.int a2), some (.int (Int32.ofInt 0)), some (.int (Int32.ofInt 0))] [] h Q)) : zqm 171 [.ref 67, .int a1, .int a2] h Q := by
  refine zqm_of zp_171 (fun n => ?_)
  have H := H n
  show zQ n 171 0 [some (.ref 67), some (.int a1), some (.int a2), none, none] [] h Q
  refine zQ_seq 4 (pc' := 5) (L' := [some (.ref 67), some (.int a1), some (.int a2), some (.int (Int32.ofInt 0)), some (.int (Int32.ofInt 0))]) (S' := []) (h' := h) zp_171 rfl ?_
  exact H
theorem s_171_67_5 {n : Nat} {h : zH} {Q : Option Value → zH → Prop} (x1 : Int32) (x2 : Int32) (x3 : Int32) (x4 : Int32) (H : (((15 : Int) ≤ x4.toInt → Q (some (.int x3)) h) ∧ (¬ ((15 : Int) ≤ x4.toInt) → ((x2.toInt ≤ x3.toInt → Q (some (.int x3)) h) ∧ (¬ (x2.toInt ≤ x3.toInt) → (0 ≤ ((Int32.ofInt 30) + x4).toInt → ((Int32.ofInt 30) + x4).toInt < 62 → ((¬ (h.1 67 ((Int32.ofInt 30) + x4).toInt.toNat).toInt = x1.toInt → zQ n 171 5 [some (.ref 67), some (.int x1), some (.int x2), some (.int x3), some (.int (x4 + Int32.ofInt 1))] [] h Q) ∧ (¬ (¬ (h.1 67 ((Int32.ofInt 30) + x4).toInt.toNat).toInt = x1.toInt) → (0 ≤ ((Int32.ofInt 0) + x4).toInt → ((Int32.ofInt 0) + x4).toInt < 62 → (0 ≤ ((Int32.ofInt 15) + x4).toInt → ((Int32.ofInt 15) + x4).toInt < 62 → (((h.1 67 ((Int32.ofInt 0) + x4).toInt.toNat).toInt = (h.1 67 ((Int32.ofInt 15) + x4).toInt.toNat).toInt → zQ n 171 5 [some (.ref 67), some (.int x1), some (.int x2), some (.int x3), some (.int (x4 + Int32.ofInt 1))] [] h Q) ∧ (¬ ((h.1 67 ((Int32.ofInt 0) + x4).toInt.toNat).toInt = (h.1 67 ((Int32.ofInt 15) + x4).toInt.toNat).toInt) → (0 ≤ ((Int32.ofInt 15) + x4).toInt → ((Int32.ofInt 15) + x4).toInt < 62 → (0 ≤ ((Int32.ofInt 0) + x4).toInt → ((Int32.ofInt 0) + x4).toInt < 62 → zQ n 171 5 [some (.ref 67), some (.int x1), some (.int x2), some (.int (x3 + Int32.ofInt 1)), some (.int (x4 + Int32.ofInt 1))] [] (zSet h 67 ((Int32.ofInt 0) + x4).toInt.toNat (h.1 67 ((Int32.ofInt 15) + x4).toInt.toNat)) Q)))))))))))))) : zQ (n + 1) 171 5 [some (.ref 67), some (.int x1), some (.int x2), some (.int x3), some (.int x4)] [] h Q := by
  refine zQ_seqL 1 (pc' := 9) (L' := [some (.ref 67), some (.int x1), some (.int x2), some (.int x3), some (.int x4)]) (S' := [.int (Int32.ofInt 15), .int x4]) (h' := h) zp_171 rfl ?_
  refine zQ_ic zp_171 rfl (t := 66) rfl (i := x4.toInt) (j := (15 : Int)) rfl kc_15 (fun c1 => ?_) (fun c1 => ?_)
  · refine zQ_seq 1 (pc' := 67) (L' := [some (.ref 67), some (.int x1), some (.int x2), some (.int x3), some (.int x4)]) (S' := [.int x3]) (h' := h) zp_171 rfl ?_
    exact zQ_retI zp_171 rfl (H.1 c1)
  · refine zQ_seq 2 (pc' := 14) (L' := [some (.ref 67), some (.int x1), some (.int x2), some (.int x3), some (.int x4)]) (S' := [.int x2, .int x3]) (h' := h) zp_171 rfl ?_
    refine zQ_ic zp_171 rfl (t := 66) rfl (i := x3.toInt) (j := x2.toInt) rfl rfl (fun c2 => ?_) (fun c2 => ?_)
    · refine zQ_seq 1 (pc' := 67) (L' := [some (.ref 67), some (.int x1), some (.int x2), some (.int x3), some (.int x4)]) (S' := [.int x3]) (h' := h) zp_171 rfl ?_
      exact zQ_retI zp_171 rfl ((H.2 c1).1 c2)
    · refine zQ_seq 4 (pc' := 23) (L' := [some (.ref 67), some (.int x1), some (.int x2), some (.int x3), some (.int x4)]) (S' := [.int ((Int32.ofInt 30) + x4), .ref 67]) (h' := h) zp_171 rfl ?_
      refine zQ_ial (N := 62) (f := h.1 67) zp_171 rfl rfl rfl (fun b3 b3' => ?_)
      refine zQ_seq 1 (pc' := 25) (L' := [some (.ref 67), some (.int x1), some (.int x2), some (.int x3), some (.int x4)]) (S' := [.int x1, .int (h.1 67 ((Int32.ofInt 30) + x4).toInt.toNat)]) (h' := h) zp_171 rfl ?_
      refine zQ_ic zp_171 rfl (t := 60) rfl (i := (h.1 67 ((Int32.ofInt 30) + x4).toInt.toNat).toInt) (j := x1.toInt) rfl rfl (fun c4 => ?_) (fun c4 => ?_)
      · refine zQ_seq 1 (pc' := 63) (L' := [some (.ref 67), some (.int x1), some (.int x2), some (.int x3), some (.int (x4 + Int32.ofInt 1))]) (S' := []) (h' := h) zp_171 rfl ?_
        refine zQ_goto zp_171 rfl (t := 5) rfl ?_
        exact ((((H.2 c1).2 c2) b3 b3').1 c4)
      · refine zQ_seq 4 (pc' := 33) (L' := [some (.ref 67), some (.int x1), some (.int x2), some (.int x3), some (.int x4)]) (S' := [.int ((Int32.ofInt 0) + x4), .ref 67]) (h' := h) zp_171 rfl ?_
        refine zQ_ial (N := 62) (f := h.1 67) zp_171 rfl rfl rfl (fun b5 b5' => ?_)
        refine zQ_seq 4 (pc' := 40) (L' := [some (.ref 67), some (.int x1), some (.int x2), some (.int x3), some (.int x4)]) (S' := [.int ((Int32.ofInt 15) + x4), .ref 67, .int (h.1 67 ((Int32.ofInt 0) + x4).toInt.toNat)]) (h' := h) zp_171 rfl ?_
        refine zQ_ial (N := 62) (f := h.1 67) zp_171 rfl rfl rfl (fun b6 b6' => ?_)
        refine zQ_ic zp_171 rfl (t := 60) rfl (i := (h.1 67 ((Int32.ofInt 0) + x4).toInt.toNat).toInt) (j := (h.1 67 ((Int32.ofInt 15) + x4).toInt.toNat).toInt) rfl rfl (fun c7 => ?_) (fun c7 => ?_)
        · refine zQ_seq 1 (pc' := 63) (L' := [some (.ref 67), some (.int x1), some (.int x2), some (.int x3), some (.int (x4 + Int32.ofInt 1))]) (S' := []) (h' := h) zp_171 rfl ?_
          refine zQ_goto zp_171 rfl (t := 5) rfl ?_
          exact (((((((H.2 c1).2 c2) b3 b3').2 c4) b5 b5') b6 b6').1 c7)
        · refine zQ_seq 8 (pc' := 55) (L' := [some (.ref 67), some (.int x1), some (.int x2), some (.int x3), some (.int x4)]) (S' := [.int ((Int32.ofInt 15) + x4), .ref 67, .int ((Int32.ofInt 0) + x4), .ref 67]) (h' := h) zp_171 rfl ?_
          refine zQ_ial (N := 62) (f := h.1 67) zp_171 rfl rfl rfl (fun b8 b8' => ?_)
          refine zQ_ias (N := 62) zp_171 rfl rfl rfl (fun b9 b9' => ?_)
          refine zQ_seq 2 (pc' := 63) (L' := [some (.ref 67), some (.int x1), some (.int x2), some (.int (x3 + Int32.ofInt 1)), some (.int (x4 + Int32.ofInt 1))]) (S' := []) (h' := (zSet h 67 ((Int32.ofInt 0) + x4).toInt.toNat (h.1 67 ((Int32.ofInt 15) + x4).toInt.toNat))) zp_171 rfl ?_
          refine zQ_goto zp_171 rfl (t := 5) rfl ?_
          exact (((((((((H.2 c1).2 c2) b3 b3').2 c4) b5 b5') b6 b6').2 c7) b8 b8') b9 b9')
theorem s_172 {h : zH} {Q : Option Value → zH → Prop} (a1 : Int32) (H : zqm 152 [.ref 58, .int a1] h (fun rv h1 => zri rv (fun v1 => ((¬ v1.toInt = 0 → zqm 148 [.ref 58] h1 (fun _ h3 => zqm 159 [.ref 58, .int a1] h3 (fun rv h4 => zri rv (fun v4 => zqm 171 [.ref 64, .int v4, .int (Int32.ofInt 15)] h4 (fun rv h5 => zri rv (fun v5 => Q (some (.int v5)) h5)))))) ∧ (¬ (¬ v1.toInt = 0) → Q (some (.int (-1000001 : Int32))) h1))))) : zqm 172 [.ref 58, .int a1] h Q := by
  refine zqm_of zp_172 (fun n => ?_)
  show zQ n 172 0 [some (.ref 58), some (.int a1)] [] h Q
  refine zQ_seq 2 (pc' := 2) (L' := [some (.ref 58), some (.int a1)]) (S' := [.int a1, .ref 58]) (h' := h) zp_172 rfl ?_
  refine zQ_cvI (M' := 152) (as := [.ref 58, .int a1]) (S' := []) zp_172 rfl rfl zp_152 (Or.inr rfl) rfl rfl (zqm_imp H (fun rv h1 r1 => zri_imp r1 (fun v1 r1' => ?_)))
  refine zQ_if zp_172 rfl (t := 11) rfl (i := v1.toInt) rfl (fun c2 => ?_) (fun c2 => ?_)
  · refine zQ_seq 1 (pc' := 12) (L' := [some (.ref 58), some (.int a1)]) (S' := [.ref 58]) (h' := h1) zp_172 rfl ?_
    refine zQ_cvV (M' := 148) (as := [.ref 58]) (S' := []) zp_172 rfl rfl zp_148 rfl rfl rfl (zqm_imp (r1'.1 c2) (fun rv h3 r3 => ?_))
    refine zQ_seq 4 (pc' := 21) (L' := [some (.ref 58), some (.int a1)]) (S' := [.int a1, .ref 58, .ref 64]) (h' := h3) zp_172 rfl ?_
    refine zQ_cvI (M' := 159) (as := [.ref 58, .int a1]) (S' := [.ref 64]) zp_172 rfl rfl zp_159 (Or.inl rfl) rfl rfl (zqm_imp r3 (fun rv h4 r4 => zri_imp r4 (fun v4 r4' => ?_)))
    refine zQ_seq 1 (pc' := 26) (L' := [some (.ref 58), some (.int a1)]) (S' := [.int (Int32.ofInt 15), .int v4, .ref 64]) (h' := h4) zp_172 rfl ?_
    refine zQ_csI (M' := 171) (as := [.ref 64, .int v4, .int (Int32.ofInt 15)]) (S' := []) zp_172 rfl rfl rfl zp_171 (Or.inl rfl) rfl rfl (zqm_imp r4' (fun rv h5 r5 => zri_imp r5 (fun v5 r5' => ?_)))
    exact zQ_retI zp_172 rfl r5'
  · refine zQ_seq 1 (pc' := 10) (L' := [some (.ref 58), some (.int a1)]) (S' := [.int (-1000001 : Int32)]) (h' := h1) zp_172 rfl ?_
    exact zQ_retI zp_172 rfl (r1'.2 c2)
theorem s_173_64 {h : zH} {Q : Option Value → zH → Prop} (H : (∀ n, zQ n 173 2 [some (.ref 64), some (.int (Int32.ofInt 0))] [] h Q)) : zqm 173 [.ref 64] h Q := by
  refine zqm_of zp_173 (fun n => ?_)
  have H := H n
  show zQ n 173 0 [some (.ref 64), none] [] h Q
  refine zQ_seq 2 (pc' := 2) (L' := [some (.ref 64), some (.int (Int32.ofInt 0))]) (S' := []) (h' := h) zp_173 rfl ?_
  exact H
theorem s_173_64_2 {n : Nat} {h : zH} {Q : Option Value → zH → Prop} (x1 : Int32) (H : (((h.1 64 57).toInt ≤ x1.toInt → Q none (zSet h 64 60 ((h.1 64 60) + (Int32.ofInt 1)))) ∧ (¬ ((h.1 64 57).toInt ≤ x1.toInt) → (0 ≤ ((Int32.ofInt 45) + ((Int32.ofInt 3) * x1)).toInt → ((Int32.ofInt 45) + ((Int32.ofInt 3) * x1)).toInt < 62 → ((¬ (h.1 64 ((Int32.ofInt 45) + ((Int32.ofInt 3) * x1)).toInt.toNat).toInt = (5 : Int) → zQ n 173 2 [some (.ref 64), some (.int (x1 + Int32.ofInt 1))] [] h Q) ∧ (¬ (¬ (h.1 64 ((Int32.ofInt 45) + ((Int32.ofInt 3) * x1)).toInt.toNat).toInt = (5 : Int)) → (0 ≤ (((Int32.ofInt 45) + ((Int32.ofInt 3) * x1)) + (Int32.ofInt 1)).toInt → (((Int32.ofInt 45) + ((Int32.ofInt 3) * x1)) + (Int32.ofInt 1)).toInt < 62 → zqm 171 [.ref 64, .int (h.1 64 (((Int32.ofInt 45) + ((Int32.ofInt 3) * x1)) + (Int32.ofInt 1)).toInt.toNat), .int (Int32.ofInt 1)] h (fun rv h5 => zri rv (fun v5 => zQ n 173 2 [some (.ref 64), some (.int (x1 + Int32.ofInt 1))] [] h5 Q))))))))) : zQ (n + 1) 173 2 [some (.ref 64), some (.int x1)] [] h Q := by
  refine zQ_seqL 2 (pc' := 6) (L' := [some (.ref 64), some (.int x1)]) (S' := [.int (Int32.ofInt 57), .ref 64, .int x1]) (h' := h) zp_173 rfl ?_
  refine zQ_ialk 57 (N := 62) (f := h.1 64) zp_173 rfl rfl kc_57 ?_
  refine zQ_ic zp_173 rfl (t := 44) rfl (i := x1.toInt) (j := (h.1 64 57).toInt) rfl rfl (fun c1 => ?_) (fun c1 => ?_)
  · refine zQ_seq 3 (pc' := 48) (L' := [some (.ref 64), some (.int x1)]) (S' := [.int (Int32.ofInt 60), .ref 64, .int (Int32.ofInt 60), .ref 64]) (h' := h) zp_173 rfl ?_
    refine zQ_ialk 60 (N := 62) (f := h.1 64) zp_173 rfl rfl kc_60 ?_
    refine zQ_seq 2 (pc' := 51) (L' := [some (.ref 64), some (.int x1)]) (S' := [.int ((h.1 64 60) + (Int32.ofInt 1)), .int (Int32.ofInt 60), .ref 64]) (h' := h) zp_173 rfl ?_
    refine zQ_iask 60 (N := 62) zp_173 rfl rfl kc_60 ?_
    exact zQ_retV zp_173 rfl (H.1 c1)
  · refine zQ_seq 6 (pc' := 17) (L' := [some (.ref 64), some (.int x1)]) (S' := [.int ((Int32.ofInt 45) + ((Int32.ofInt 3) * x1)), .ref 64]) (h' := h) zp_173 rfl ?_
    refine zQ_ial (N := 62) (f := h.1 64) zp_173 rfl rfl rfl (fun b2 b2' => ?_)
    refine zQ_seq 1 (pc' := 19) (L' := [some (.ref 64), some (.int x1)]) (S' := [.int (Int32.ofInt 5), .int (h.1 64 ((Int32.ofInt 45) + ((Int32.ofInt 3) * x1)).toInt.toNat)]) (h' := h) zp_173 rfl ?_
    refine zQ_ic zp_173 rfl (t := 38) rfl (i := (h.1 64 ((Int32.ofInt 45) + ((Int32.ofInt 3) * x1)).toInt.toNat).toInt) (j := (5 : Int)) rfl kc_5 (fun c3 => ?_) (fun c3 => ?_)
    · refine zQ_seq 1 (pc' := 41) (L' := [some (.ref 64), some (.int (x1 + Int32.ofInt 1))]) (S' := []) (h' := h) zp_173 rfl ?_
      refine zQ_goto zp_173 rfl (t := 2) rfl ?_
      exact (((H.2 c1) b2 b2').1 c3)
    · refine zQ_seq 9 (pc' := 32) (L' := [some (.ref 64), some (.int x1)]) (S' := [.int (((Int32.ofInt 45) + ((Int32.ofInt 3) * x1)) + (Int32.ofInt 1)), .ref 64, .ref 64]) (h' := h) zp_173 rfl ?_
      refine zQ_ial (N := 62) (f := h.1 64) zp_173 rfl rfl rfl (fun b4 b4' => ?_)
      refine zQ_seq 1 (pc' := 34) (L' := [some (.ref 64), some (.int x1)]) (S' := [.int (Int32.ofInt 1), .int (h.1 64 (((Int32.ofInt 45) + ((Int32.ofInt 3) * x1)) + (Int32.ofInt 1)).toInt.toNat), .ref 64]) (h' := h) zp_173 rfl ?_
      refine zQ_csI (M' := 171) (as := [.ref 64, .int (h.1 64 (((Int32.ofInt 45) + ((Int32.ofInt 3) * x1)) + (Int32.ofInt 1)).toInt.toNat), .int (Int32.ofInt 1)]) (S' := []) zp_173 rfl rfl rfl zp_171 (Or.inl rfl) rfl rfl (zqm_imp ((((H.2 c1) b2 b2').2 c3) b4 b4') (fun rv h5 r5 => zri_imp r5 (fun v5 r5' => ?_)))
      refine zQ_seq 2 (pc' := 41) (L' := [some (.ref 64), some (.int (x1 + Int32.ofInt 1))]) (S' := []) (h' := h5) zp_173 rfl ?_
      refine zQ_goto zp_173 rfl (t := 2) rfl ?_
      exact r5'
theorem s_173_67 {h : zH} {Q : Option Value → zH → Prop} (H : (∀ n, zQ n 173 2 [some (.ref 67), some (.int (Int32.ofInt 0))] [] h Q)) : zqm 173 [.ref 67] h Q := by
  refine zqm_of zp_173 (fun n => ?_)
  have H := H n
  show zQ n 173 0 [some (.ref 67), none] [] h Q
  refine zQ_seq 2 (pc' := 2) (L' := [some (.ref 67), some (.int (Int32.ofInt 0))]) (S' := []) (h' := h) zp_173 rfl ?_
  exact H
theorem s_173_67_2 {n : Nat} {h : zH} {Q : Option Value → zH → Prop} (x1 : Int32) (H : (((h.1 67 57).toInt ≤ x1.toInt → Q none (zSet h 67 60 ((h.1 67 60) + (Int32.ofInt 1)))) ∧ (¬ ((h.1 67 57).toInt ≤ x1.toInt) → (0 ≤ ((Int32.ofInt 45) + ((Int32.ofInt 3) * x1)).toInt → ((Int32.ofInt 45) + ((Int32.ofInt 3) * x1)).toInt < 62 → ((¬ (h.1 67 ((Int32.ofInt 45) + ((Int32.ofInt 3) * x1)).toInt.toNat).toInt = (5 : Int) → zQ n 173 2 [some (.ref 67), some (.int (x1 + Int32.ofInt 1))] [] h Q) ∧ (¬ (¬ (h.1 67 ((Int32.ofInt 45) + ((Int32.ofInt 3) * x1)).toInt.toNat).toInt = (5 : Int)) → (0 ≤ (((Int32.ofInt 45) + ((Int32.ofInt 3) * x1)) + (Int32.ofInt 1)).toInt → (((Int32.ofInt 45) + ((Int32.ofInt 3) * x1)) + (Int32.ofInt 1)).toInt < 62 → zqm 171 [.ref 67, .int (h.1 67 (((Int32.ofInt 45) + ((Int32.ofInt 3) * x1)) + (Int32.ofInt 1)).toInt.toNat), .int (Int32.ofInt 1)] h (fun rv h5 => zri rv (fun v5 => zQ n 173 2 [some (.ref 67), some (.int (x1 + Int32.ofInt 1))] [] h5 Q))))))))) : zQ (n + 1) 173 2 [some (.ref 67), some (.int x1)] [] h Q := by
  refine zQ_seqL 2 (pc' := 6) (L' := [some (.ref 67), some (.int x1)]) (S' := [.int (Int32.ofInt 57), .ref 67, .int x1]) (h' := h) zp_173 rfl ?_
  refine zQ_ialk 57 (N := 62) (f := h.1 67) zp_173 rfl rfl kc_57 ?_
  refine zQ_ic zp_173 rfl (t := 44) rfl (i := x1.toInt) (j := (h.1 67 57).toInt) rfl rfl (fun c1 => ?_) (fun c1 => ?_)
  · refine zQ_seq 3 (pc' := 48) (L' := [some (.ref 67), some (.int x1)]) (S' := [.int (Int32.ofInt 60), .ref 67, .int (Int32.ofInt 60), .ref 67]) (h' := h) zp_173 rfl ?_
    refine zQ_ialk 60 (N := 62) (f := h.1 67) zp_173 rfl rfl kc_60 ?_
    refine zQ_seq 2 (pc' := 51) (L' := [some (.ref 67), some (.int x1)]) (S' := [.int ((h.1 67 60) + (Int32.ofInt 1)), .int (Int32.ofInt 60), .ref 67]) (h' := h) zp_173 rfl ?_
    refine zQ_iask 60 (N := 62) zp_173 rfl rfl kc_60 ?_
    exact zQ_retV zp_173 rfl (H.1 c1)
  · refine zQ_seq 6 (pc' := 17) (L' := [some (.ref 67), some (.int x1)]) (S' := [.int ((Int32.ofInt 45) + ((Int32.ofInt 3) * x1)), .ref 67]) (h' := h) zp_173 rfl ?_
    refine zQ_ial (N := 62) (f := h.1 67) zp_173 rfl rfl rfl (fun b2 b2' => ?_)
    refine zQ_seq 1 (pc' := 19) (L' := [some (.ref 67), some (.int x1)]) (S' := [.int (Int32.ofInt 5), .int (h.1 67 ((Int32.ofInt 45) + ((Int32.ofInt 3) * x1)).toInt.toNat)]) (h' := h) zp_173 rfl ?_
    refine zQ_ic zp_173 rfl (t := 38) rfl (i := (h.1 67 ((Int32.ofInt 45) + ((Int32.ofInt 3) * x1)).toInt.toNat).toInt) (j := (5 : Int)) rfl kc_5 (fun c3 => ?_) (fun c3 => ?_)
    · refine zQ_seq 1 (pc' := 41) (L' := [some (.ref 67), some (.int (x1 + Int32.ofInt 1))]) (S' := []) (h' := h) zp_173 rfl ?_
      refine zQ_goto zp_173 rfl (t := 2) rfl ?_
      exact (((H.2 c1) b2 b2').1 c3)
    · refine zQ_seq 9 (pc' := 32) (L' := [some (.ref 67), some (.int x1)]) (S' := [.int (((Int32.ofInt 45) + ((Int32.ofInt 3) * x1)) + (Int32.ofInt 1)), .ref 67, .ref 67]) (h' := h) zp_173 rfl ?_
      refine zQ_ial (N := 62) (f := h.1 67) zp_173 rfl rfl rfl (fun b4 b4' => ?_)
      refine zQ_seq 1 (pc' := 34) (L' := [some (.ref 67), some (.int x1)]) (S' := [.int (Int32.ofInt 1), .int (h.1 67 (((Int32.ofInt 45) + ((Int32.ofInt 3) * x1)) + (Int32.ofInt 1)).toInt.toNat), .ref 67]) (h' := h) zp_173 rfl ?_
      refine zQ_csI (M' := 171) (as := [.ref 67, .int (h.1 67 (((Int32.ofInt 45) + ((Int32.ofInt 3) * x1)) + (Int32.ofInt 1)).toInt.toNat), .int (Int32.ofInt 1)]) (S' := []) zp_173 rfl rfl rfl zp_171 (Or.inl rfl) rfl rfl (zqm_imp ((((H.2 c1) b2 b2').2 c3) b4 b4') (fun rv h5 r5 => zri_imp r5 (fun v5 r5' => ?_)))
      refine zQ_seq 2 (pc' := 41) (L' := [some (.ref 67), some (.int (x1 + Int32.ofInt 1))]) (S' := []) (h' := h5) zp_173 rfl ?_
      refine zQ_goto zp_173 rfl (t := 2) rfl ?_
      exact r5'
theorem s_174 {h : zH} {Q : Option Value → zH → Prop} (a1 : Int32) (H : (∀ n, zqm 150 [.ref 58] h (fun rv h1 => zri rv (fun v1 => ((¬ v1.toInt = 0 → zqm 121 [.int a1, .int (Int32.ofInt 1), .int (Int32.ofInt 24)] h1 (fun rv h3 => zri rv (fun v3 => ((¬ v3.toInt = 0 → ((((h3.1 64 60) + a1).toInt ≤ (999 : Int) → zQ n 174 43 [some (.ref 58), some (.int a1), some (.int (Int32.ofInt 0))] [] h3 Q) ∧ (¬ (((h3.1 64 60) + a1).toInt ≤ (999 : Int)) → Q (some (.int (-1000003 : Int32))) h3))) ∧ (¬ (¬ v3.toInt = 0) → Q (some (.int (-1000001 : Int32))) h3))))) ∧ (¬ (¬ v1.toInt = 0) → Q (some (.int (-1000002 : Int32))) h1)))))) : zqm 174 [.ref 58, .int a1] h Q := by
  refine zqm_of zp_174 (fun n => ?_)
  have H := H n
  show zQ n 174 0 [some (.ref 58), some (.int a1), none] [] h Q
  refine zQ_seq 1 (pc' := 1) (L' := [some (.ref 58), some (.int a1), none]) (S' := [.ref 58]) (h' := h) zp_174 rfl ?_
  refine zQ_cvI (M' := 150) (as := [.ref 58]) (S' := []) zp_174 rfl rfl zp_150 (Or.inr rfl) rfl rfl (zqm_imp H (fun rv h1 r1 => zri_imp r1 (fun v1 r1' => ?_)))
  refine zQ_if zp_174 rfl (t := 10) rfl (i := v1.toInt) rfl (fun c2 => ?_) (fun c2 => ?_)
  · refine zQ_seq 3 (pc' := 14) (L' := [some (.ref 58), some (.int a1), none]) (S' := [.int (Int32.ofInt 24), .int (Int32.ofInt 1), .int a1]) (h' := h1) zp_174 rfl ?_
    refine zQ_csI (M' := 121) (as := [.int a1, .int (Int32.ofInt 1), .int (Int32.ofInt 24)]) (S' := []) zp_174 rfl rfl rfl zp_121 (Or.inr rfl) rfl rfl (zqm_imp (r1'.1 c2) (fun rv h3 r3 => zri_imp r3 (fun v3 r3' => ?_)))
    refine zQ_if zp_174 rfl (t := 23) rfl (i := v3.toInt) rfl (fun c4 => ?_) (fun c4 => ?_)
    · refine zQ_seq 3 (pc' := 29) (L' := [some (.ref 58), some (.int a1), none]) (S' := [.int (Int32.ofInt 60), .ref 64]) (h' := h3) zp_174 rfl ?_
      refine zQ_ialk 60 (N := 62) (f := h3.1 64) zp_174 rfl rfl kc_60 ?_
      refine zQ_seq 3 (pc' := 35) (L' := [some (.ref 58), some (.int a1), none]) (S' := [.int (Int32.ofInt 999), .int ((h3.1 64 60) + a1)]) (h' := h3) zp_174 rfl ?_
      refine zQ_ic zp_174 rfl (t := 41) rfl (i := ((h3.1 64 60) + a1).toInt) (j := (999 : Int)) rfl kc_999 (fun c5 => ?_) (fun c5 => ?_)
      · refine zQ_seq 2 (pc' := 43) (L' := [some (.ref 58), some (.int a1), some (.int (Int32.ofInt 0))]) (S' := []) (h' := h3) zp_174 rfl ?_
        exact ((r3'.1 c4).1 c5)
      · refine zQ_seq 1 (pc' := 40) (L' := [some (.ref 58), some (.int a1), none]) (S' := [.int (-1000003 : Int32)]) (h' := h3) zp_174 rfl ?_
        exact zQ_retI zp_174 rfl ((r3'.1 c4).2 c5)
    · refine zQ_seq 1 (pc' := 22) (L' := [some (.ref 58), some (.int a1), none]) (S' := [.int (-1000001 : Int32)]) (h' := h3) zp_174 rfl ?_
      exact zQ_retI zp_174 rfl (r3'.2 c4)
  · refine zQ_seq 1 (pc' := 9) (L' := [some (.ref 58), some (.int a1), none]) (S' := [.int (-1000002 : Int32)]) (h' := h1) zp_174 rfl ?_
    exact zQ_retI zp_174 rfl (r1'.2 c2)
theorem s_174_43 {n : Nat} {h : zH} {Q : Option Value → zH → Prop} (x1 : Int32) (x2 : Int32) (H : ((x1.toInt ≤ x2.toInt → zqm 156 [.ref 58, .ref 64] h (fun rv h2 => zri rv (fun v2 => Q (some (.int v2)) h2))) ∧ (¬ (x1.toInt ≤ x2.toInt) → zqm 148 [.ref 58] h (fun _ h3 => zqm 173 [.ref 64] h3 (fun _ h4 => zQ n 174 43 [some (.ref 58), some (.int x1), some (.int (x2 + Int32.ofInt 1))] [] h4 Q))))) : zQ (n + 1) 174 43 [some (.ref 58), some (.int x1), some (.int x2)] [] h Q := by
  refine zQ_seqL 1 (pc' := 45) (L' := [some (.ref 58), some (.int x1), some (.int x2)]) (S' := [.int x1, .int x2]) (h' := h) zp_174 rfl ?_
  refine zQ_ic zp_174 rfl (t := 65) rfl (i := x2.toInt) (j := x1.toInt) rfl rfl (fun c1 => ?_) (fun c1 => ?_)
  · refine zQ_seq 3 (pc' := 70) (L' := [some (.ref 58), some (.int x1), some (.int x2)]) (S' := [.ref 64, .ref 58]) (h' := h) zp_174 rfl ?_
    refine zQ_cvI (M' := 156) (as := [.ref 58, .ref 64]) (S' := []) zp_174 rfl rfl zp_156 (Or.inl rfl) rfl rfl (zqm_imp (H.1 c1) (fun rv h2 r2 => zri_imp r2 (fun v2 r2' => ?_)))
    exact zQ_retI zp_174 rfl r2'
  · refine zQ_seq 1 (pc' := 49) (L' := [some (.ref 58), some (.int x1), some (.int x2)]) (S' := [.ref 58]) (h' := h) zp_174 rfl ?_
    refine zQ_cvV (M' := 148) (as := [.ref 58]) (S' := []) zp_174 rfl rfl zp_148 rfl rfl rfl (zqm_imp (H.2 c1) (fun rv h3 r3 => ?_))
    refine zQ_seq 2 (pc' := 56) (L' := [some (.ref 58), some (.int x1), some (.int x2)]) (S' := [.ref 64]) (h' := h3) zp_174 rfl ?_
    refine zQ_csV (M' := 173) (as := [.ref 64]) (S' := []) zp_174 rfl rfl rfl zp_173 rfl rfl rfl (zqm_imp r3 (fun rv h4 r4 => ?_))
    refine zQ_seq 1 (pc' := 62) (L' := [some (.ref 58), some (.int x1), some (.int (x2 + Int32.ofInt 1))]) (S' := []) (h' := h4) zp_174 rfl ?_
    refine zQ_goto zp_174 rfl (t := 43) rfl ?_
    exact r4
theorem s_175 {h : zH} {Q : Option Value → zH → Prop} (a1 : Int32) (a2 : Int32) (H : (∀ n, zqm 150 [.ref 58] h (fun rv h1 => zri rv (fun v1 => ((¬ v1.toInt = 0 → zqm 151 [.int a1] h1 (fun rv h3 => zri rv (fun v3 => ((v3.toInt = 0 → Q (some (.int (-1000001 : Int32))) h3) ∧ (¬ (v3.toInt = 0) → zqm 121 [.int a2, .int (Int32.ofInt 0), .int (Int32.ofInt 4)] h3 (fun rv h5 => zri rv (fun v5 => ((¬ v5.toInt = 0 → (((3 : Int) ≤ a2.toInt → zQ n 175 71 [some (.ref 58), some (.int a1), some (.int a2), some (.int (Int32.ofInt 0)), some (.int (Int32.ofInt 0))] [] h5 Q) ∧ (¬ ((3 : Int) ≤ a2.toInt) → ((¬ a2.toInt = 0 → ((¬ a2.toInt = (1 : Int) → (0 ≤ ((Int32.ofInt 30) + a1).toInt → ((Int32.ofInt 30) + a1).toInt < 62 → Q (some (.int (h5.1 64 ((Int32.ofInt 30) + a1).toInt.toNat))) h5)) ∧ (¬ (¬ a2.toInt = (1 : Int)) → (0 ≤ ((Int32.ofInt 15) + a1).toInt → ((Int32.ofInt 15) + a1).toInt < 62 → Q (some (.int (h5.1 64 ((Int32.ofInt 15) + a1).toInt.toNat))) h5)))) ∧ (¬ (¬ a2.toInt = 0) → (0 ≤ ((Int32.ofInt 0) + a1).toInt → ((Int32.ofInt 0) + a1).toInt < 62 → Q (some (.int (h5.1 64 ((Int32.ofInt 0) + a1).toInt.toNat))) h5)))))) ∧ (¬ (¬ v5.toInt = 0) → Q (some (.int (-1000001 : Int32))) h5))))))))) ∧ (¬ (¬ v1.toInt = 0) → Q (some (.int (-1000002 : Int32))) h1)))))) : zqm 175 [.ref 58, .int a1, .int a2] h Q := by
  refine zqm_of zp_175 (fun n => ?_)
  have H := H n
  show zQ n 175 0 [some (.ref 58), some (.int a1), some (.int a2), none, none] [] h Q
  refine zQ_seq 1 (pc' := 1) (L' := [some (.ref 58), some (.int a1), some (.int a2), none, none]) (S' := [.ref 58]) (h' := h) zp_175 rfl ?_
  refine zQ_cvI (M' := 150) (as := [.ref 58]) (S' := []) zp_175 rfl rfl zp_150 (Or.inr rfl) rfl rfl (zqm_imp H (fun rv h1 r1 => zri_imp r1 (fun v1 r1' => ?_)))
  refine zQ_if zp_175 rfl (t := 10) rfl (i := v1.toInt) rfl (fun c2 => ?_) (fun c2 => ?_)
  · refine zQ_seq 1 (pc' := 11) (L' := [some (.ref 58), some (.int a1), some (.int a2), none, none]) (S' := [.int a1]) (h' := h1) zp_175 rfl ?_
    refine zQ_csI (M' := 151) (as := [.int a1]) (S' := []) zp_175 rfl rfl rfl zp_151 (Or.inr rfl) rfl rfl (zqm_imp (r1'.1 c2) (fun rv h3 r3 => zri_imp r3 (fun v3 r3' => ?_)))
    refine zQ_if zp_175 rfl (t := 26) rfl (i := v3.toInt) rfl (fun c4 => ?_) (fun c4 => ?_)
    · refine zQ_seq 1 (pc' := 28) (L' := [some (.ref 58), some (.int a1), some (.int a2), none, none]) (S' := [.int (-1000001 : Int32)]) (h' := h3) zp_175 rfl ?_
      exact zQ_retI zp_175 rfl (r3'.1 c4)
    · refine zQ_seq 3 (pc' := 20) (L' := [some (.ref 58), some (.int a1), some (.int a2), none, none]) (S' := [.int (Int32.ofInt 4), .int (Int32.ofInt 0), .int a2]) (h' := h3) zp_175 rfl ?_
      refine zQ_csI (M' := 121) (as := [.int a2, .int (Int32.ofInt 0), .int (Int32.ofInt 4)]) (S' := []) zp_175 rfl rfl rfl zp_121 (Or.inr rfl) rfl rfl (zqm_imp (r3'.2 c4) (fun rv h5 r5 => zri_imp r5 (fun v5 r5' => ?_)))
      refine zQ_if zp_175 rfl (t := 29) rfl (i := v5.toInt) rfl (fun c6 => ?_) (fun c6 => ?_)
      · refine zQ_seq 2 (pc' := 31) (L' := [some (.ref 58), some (.int a1), some (.int a2), none, none]) (S' := [.int (Int32.ofInt 3), .int a2]) (h' := h5) zp_175 rfl ?_
        refine zQ_ic zp_175 rfl (t := 66) rfl (i := a2.toInt) (j := (3 : Int)) rfl kc_3 (fun c7 => ?_) (fun c7 => ?_)
        · refine zQ_seq 4 (pc' := 71) (L' := [some (.ref 58), some (.int a1), some (.int a2), some (.int (Int32.ofInt 0)), some (.int (Int32.ofInt 0))]) (S' := []) (h' := h5) zp_175 rfl ?_
          exact ((r5'.1 c6).1 c7)
        · refine zQ_seq 3 (pc' := 39) (L' := [some (.ref 58), some (.int a1), some (.int a2), none, none]) (S' := [.int a2, .ref 64]) (h' := h5) zp_175 rfl ?_
          refine zQ_if zp_175 rfl (t := 48) rfl (i := a2.toInt) rfl (fun c8 => ?_) (fun c8 => ?_)
          · refine zQ_seq 2 (pc' := 50) (L' := [some (.ref 58), some (.int a1), some (.int a2), none, none]) (S' := [.int (Int32.ofInt 1), .int a2, .ref 64]) (h' := h5) zp_175 rfl ?_
            refine zQ_ic zp_175 rfl (t := 60) rfl (i := a2.toInt) (j := (1 : Int)) rfl kc_1 (fun c9 => ?_) (fun c9 => ?_)
            · refine zQ_seq 3 (pc' := 64) (L' := [some (.ref 58), some (.int a1), some (.int a2), none, none]) (S' := [.int ((Int32.ofInt 30) + a1), .ref 64]) (h' := h5) zp_175 rfl ?_
              refine zQ_ial (N := 62) (f := h5.1 64) zp_175 rfl rfl rfl (fun b10 b10' => ?_)
              exact zQ_retI zp_175 rfl (((((r5'.1 c6).2 c7).1 c8).1 c9) b10 b10')
            · refine zQ_seq 3 (pc' := 57) (L' := [some (.ref 58), some (.int a1), some (.int a2), none, none]) (S' := [.int ((Int32.ofInt 15) + a1), .ref 64]) (h' := h5) zp_175 rfl ?_
              refine zQ_goto zp_175 rfl (t := 64) rfl ?_
              refine zQ_ial (N := 62) (f := h5.1 64) zp_175 rfl rfl rfl (fun b11 b11' => ?_)
              exact zQ_retI zp_175 rfl (((((r5'.1 c6).2 c7).1 c8).2 c9) b11 b11')
          · refine zQ_seq 3 (pc' := 45) (L' := [some (.ref 58), some (.int a1), some (.int a2), none, none]) (S' := [.int ((Int32.ofInt 0) + a1), .ref 64]) (h' := h5) zp_175 rfl ?_
            refine zQ_goto zp_175 rfl (t := 64) rfl ?_
            refine zQ_ial (N := 62) (f := h5.1 64) zp_175 rfl rfl rfl (fun b12 b12' => ?_)
            exact zQ_retI zp_175 rfl ((((r5'.1 c6).2 c7).2 c8) b12 b12')
      · refine zQ_seq 1 (pc' := 28) (L' := [some (.ref 58), some (.int a1), some (.int a2), none, none]) (S' := [.int (-1000001 : Int32)]) (h' := h5) zp_175 rfl ?_
        exact zQ_retI zp_175 rfl (r5'.2 c6)
  · refine zQ_seq 1 (pc' := 9) (L' := [some (.ref 58), some (.int a1), some (.int a2), none, none]) (S' := [.int (-1000002 : Int32)]) (h' := h1) zp_175 rfl ?_
    exact zQ_retI zp_175 rfl (r1'.2 c2)
theorem s_175_71 {n : Nat} {h : zH} {Q : Option Value → zH → Prop} (x1 : Int32) (x2 : Int32) (x3 : Int32) (x4 : Int32) (H : (((h.1 64 57).toInt ≤ x4.toInt → ((¬ x2.toInt = (4 : Int) → zqm 154 [.ref 58, .int x1] h (fun rv h3 => zri rv (fun v3 => ((v3.toInt = 0 → Q (some (.int (Int32.ofInt 0))) h3) ∧ (¬ (v3.toInt = 0) → Q (some (.int (Int32.ofInt 1))) h3))))) ∧ (¬ (¬ x2.toInt = (4 : Int)) → Q (some (.int x3)) h))) ∧ (¬ ((h.1 64 57).toInt ≤ x4.toInt) → zqm 161 [.ref 58, .int x4, .int x1] h (fun rv h5 => zri rv (fun v5 => ((v5.toInt = 0 → zQ n 175 71 [some (.ref 58), some (.int x1), some (.int x2), some (.int (x3 ||| (Int32.ofInt 0))), some (.int (x4 + Int32.ofInt 1))] [] h5 Q) ∧ (¬ (v5.toInt = 0) → zQ n 175 71 [some (.ref 58), some (.int x1), some (.int x2), some (.int (x3 ||| ((Int32.ofInt 1) <<< (x4 &&& 31)))), some (.int (x4 + Int32.ofInt 1))] [] h5 Q))))))) : zQ (n + 1) 175 71 [some (.ref 58), some (.int x1), some (.int x2), some (.int x3), some (.int x4)] [] h Q := by
  refine zQ_seqL 3 (pc' := 79) (L' := [some (.ref 58), some (.int x1), some (.int x2), some (.int x3), some (.int x4)]) (S' := [.int (Int32.ofInt 57), .ref 64, .int x4]) (h' := h) zp_175 rfl ?_
  refine zQ_ialk 57 (N := 62) (f := h.1 64) zp_175 rfl rfl kc_57 ?_
  refine zQ_ic zp_175 rfl (t := 110) rfl (i := x4.toInt) (j := (h.1 64 57).toInt) rfl rfl (fun c1 => ?_) (fun c1 => ?_)
  · refine zQ_seq 2 (pc' := 112) (L' := [some (.ref 58), some (.int x1), some (.int x2), some (.int x3), some (.int x4)]) (S' := [.int (Int32.ofInt 4), .int x2]) (h' := h) zp_175 rfl ?_
    refine zQ_ic zp_175 rfl (t := 119) rfl (i := x2.toInt) (j := (4 : Int)) rfl kc_4 (fun c2 => ?_) (fun c2 => ?_)
    · refine zQ_seq 2 (pc' := 121) (L' := [some (.ref 58), some (.int x1), some (.int x2), some (.int x3), some (.int x4)]) (S' := [.int x1, .ref 58]) (h' := h) zp_175 rfl ?_
      refine zQ_cvI (M' := 154) (as := [.ref 58, .int x1]) (S' := []) zp_175 rfl rfl zp_154 (Or.inr rfl) rfl rfl (zqm_imp ((H.1 c1).1 c2) (fun rv h3 r3 => zri_imp r3 (fun v3 r3' => ?_)))
      refine zQ_if zp_175 rfl (t := 131) rfl (i := v3.toInt) rfl (fun c4 => ?_) (fun c4 => ?_)
      · refine zQ_seq 1 (pc' := 132) (L' := [some (.ref 58), some (.int x1), some (.int x2), some (.int x3), some (.int x4)]) (S' := [.int (Int32.ofInt 0)]) (h' := h3) zp_175 rfl ?_
        exact zQ_retI zp_175 rfl (r3'.1 c4)
      · refine zQ_seq 1 (pc' := 128) (L' := [some (.ref 58), some (.int x1), some (.int x2), some (.int x3), some (.int x4)]) (S' := [.int (Int32.ofInt 1)]) (h' := h3) zp_175 rfl ?_
        refine zQ_goto zp_175 rfl (t := 132) rfl ?_
        exact zQ_retI zp_175 rfl (r3'.2 c4)
    · refine zQ_seq 1 (pc' := 116) (L' := [some (.ref 58), some (.int x1), some (.int x2), some (.int x3), some (.int x4)]) (S' := [.int x3]) (h' := h) zp_175 rfl ?_
      refine zQ_goto zp_175 rfl (t := 132) rfl ?_
      exact zQ_retI zp_175 rfl ((H.1 c1).2 c2)
  · refine zQ_seq 4 (pc' := 88) (L' := [some (.ref 58), some (.int x1), some (.int x2), some (.int x3), some (.int x4)]) (S' := [.int x1, .int x4, .ref 58, .int x3]) (h' := h) zp_175 rfl ?_
    refine zQ_cvI (M' := 161) (as := [.ref 58, .int x4, .int x1]) (S' := [.int x3]) zp_175 rfl rfl zp_161 (Or.inr rfl) rfl rfl (zqm_imp (H.2 c1) (fun rv h5 r5 => zri_imp r5 (fun v5 r5' => ?_)))
    refine zQ_if zp_175 rfl (t := 101) rfl (i := v5.toInt) rfl (fun c6 => ?_) (fun c6 => ?_)
    · refine zQ_seq 4 (pc' := 107) (L' := [some (.ref 58), some (.int x1), some (.int x2), some (.int (x3 ||| (Int32.ofInt 0))), some (.int (x4 + Int32.ofInt 1))]) (S' := []) (h' := h5) zp_175 rfl ?_
      refine zQ_goto zp_175 rfl (t := 71) rfl ?_
      exact (r5'.1 c6)
    · refine zQ_seq 3 (pc' := 98) (L' := [some (.ref 58), some (.int x1), some (.int x2), some (.int x3), some (.int x4)]) (S' := [.int ((Int32.ofInt 1) <<< (x4 &&& 31)), .int x3]) (h' := h5) zp_175 rfl ?_
      refine zQ_goto zp_175 rfl (t := 102) rfl ?_
      refine zQ_seq 3 (pc' := 107) (L' := [some (.ref 58), some (.int x1), some (.int x2), some (.int (x3 ||| ((Int32.ofInt 1) <<< (x4 &&& 31)))), some (.int (x4 + Int32.ofInt 1))]) (S' := []) (h' := h5) zp_175 rfl ?_
      refine zQ_goto zp_175 rfl (t := 71) rfl ?_
      exact (r5'.2 c6)
theorem s_176 {h : zH} {Q : Option Value → zH → Prop} (a1 : Int32) (a2 : Int32) (H : zqm 152 [.ref 58, .int a1] h (fun rv h1 => zri rv (fun v1 => ((v1.toInt = 0 → Q (some (.int (-1000001 : Int32))) h1) ∧ (¬ (v1.toInt = 0) → zqm 121 [.int a2, .int (Int32.ofInt 0), .int (Int32.ofInt 3)] h1 (fun rv h3 => zri rv (fun v3 => ((¬ v3.toInt = 0 → ((¬ a2.toInt = 0 → ((¬ a2.toInt = (1 : Int) → ((¬ a2.toInt = (2 : Int) → zqm 162 [.ref 58, .int a1] h3 (fun rv h8 => zri rv (fun v8 => Q (some (.int v8)) h8))) ∧ (¬ (¬ a2.toInt = (2 : Int)) → zqm 165 [.ref 58, .int a1] h3 (fun rv h9 => zri rv (fun v9 => Q (some (.int v9)) h9))))) ∧ (¬ (¬ a2.toInt = (1 : Int)) → zqm 160 [.ref 58, .int a1] h3 (fun rv h10 => zri rv (fun v10 => Q (some (.int v10)) h10))))) ∧ (¬ (¬ a2.toInt = 0) → zqm 159 [.ref 58, .int a1] h3 (fun rv h11 => zri rv (fun v11 => Q (some (.int v11)) h11))))) ∧ (¬ (¬ v3.toInt = 0) → Q (some (.int (-1000001 : Int32))) h3))))))))) : zqm 176 [.ref 58, .int a1, .int a2] h Q := by
  refine zqm_of zp_176 (fun n => ?_)
  show zQ n 176 0 [some (.ref 58), some (.int a1), some (.int a2)] [] h Q
  refine zQ_seq 2 (pc' := 2) (L' := [some (.ref 58), some (.int a1), some (.int a2)]) (S' := [.int a1, .ref 58]) (h' := h) zp_176 rfl ?_
  refine zQ_cvI (M' := 152) (as := [.ref 58, .int a1]) (S' := []) zp_176 rfl rfl zp_152 (Or.inr rfl) rfl rfl (zqm_imp H (fun rv h1 r1 => zri_imp r1 (fun v1 r1' => ?_)))
  refine zQ_if zp_176 rfl (t := 17) rfl (i := v1.toInt) rfl (fun c2 => ?_) (fun c2 => ?_)
  · refine zQ_seq 1 (pc' := 19) (L' := [some (.ref 58), some (.int a1), some (.int a2)]) (S' := [.int (-1000001 : Int32)]) (h' := h1) zp_176 rfl ?_
    exact zQ_retI zp_176 rfl (r1'.1 c2)
  · refine zQ_seq 3 (pc' := 11) (L' := [some (.ref 58), some (.int a1), some (.int a2)]) (S' := [.int (Int32.ofInt 3), .int (Int32.ofInt 0), .int a2]) (h' := h1) zp_176 rfl ?_
    refine zQ_csI (M' := 121) (as := [.int a2, .int (Int32.ofInt 0), .int (Int32.ofInt 3)]) (S' := []) zp_176 rfl rfl rfl zp_121 (Or.inr rfl) rfl rfl (zqm_imp (r1'.2 c2) (fun rv h3 r3 => zri_imp r3 (fun v3 r3' => ?_)))
    refine zQ_if zp_176 rfl (t := 20) rfl (i := v3.toInt) rfl (fun c4 => ?_) (fun c4 => ?_)
    · refine zQ_seq 1 (pc' := 21) (L' := [some (.ref 58), some (.int a1), some (.int a2)]) (S' := [.int a2]) (h' := h3) zp_176 rfl ?_
      refine zQ_if zp_176 rfl (t := 32) rfl (i := a2.toInt) rfl (fun c5 => ?_) (fun c5 => ?_)
      · refine zQ_seq 2 (pc' := 34) (L' := [some (.ref 58), some (.int a1), some (.int a2)]) (S' := [.int (Int32.ofInt 1), .int a2]) (h' := h3) zp_176 rfl ?_
        refine zQ_ic zp_176 rfl (t := 45) rfl (i := a2.toInt) (j := (1 : Int)) rfl kc_1 (fun c6 => ?_) (fun c6 => ?_)
        · refine zQ_seq 2 (pc' := 47) (L' := [some (.ref 58), some (.int a1), some (.int a2)]) (S' := [.int (Int32.ofInt 2), .int a2]) (h' := h3) zp_176 rfl ?_
          refine zQ_ic zp_176 rfl (t := 58) rfl (i := a2.toInt) (j := (2 : Int)) rfl kc_2 (fun c7 => ?_) (fun c7 => ?_)
          · refine zQ_seq 2 (pc' := 60) (L' := [some (.ref 58), some (.int a1), some (.int a2)]) (S' := [.int a1, .ref 58]) (h' := h3) zp_176 rfl ?_
            refine zQ_cvI (M' := 162) (as := [.ref 58, .int a1]) (S' := []) zp_176 rfl rfl zp_162 (Or.inl rfl) rfl rfl (zqm_imp ((((r3'.1 c4).1 c5).1 c6).1 c7) (fun rv h8 r8 => zri_imp r8 (fun v8 r8' => ?_)))
            exact zQ_retI zp_176 rfl r8'
          · refine zQ_seq 2 (pc' := 52) (L' := [some (.ref 58), some (.int a1), some (.int a2)]) (S' := [.int a1, .ref 58]) (h' := h3) zp_176 rfl ?_
            refine zQ_cvI (M' := 165) (as := [.ref 58, .int a1]) (S' := []) zp_176 rfl rfl zp_165 (Or.inl rfl) rfl rfl (zqm_imp ((((r3'.1 c4).1 c5).1 c6).2 c7) (fun rv h9 r9 => zri_imp r9 (fun v9 r9' => ?_)))
            refine zQ_goto zp_176 rfl (t := 63) rfl ?_
            exact zQ_retI zp_176 rfl r9'
        · refine zQ_seq 2 (pc' := 39) (L' := [some (.ref 58), some (.int a1), some (.int a2)]) (S' := [.int a1, .ref 58]) (h' := h3) zp_176 rfl ?_
          refine zQ_cvI (M' := 160) (as := [.ref 58, .int a1]) (S' := []) zp_176 rfl rfl zp_160 (Or.inl rfl) rfl rfl (zqm_imp (((r3'.1 c4).1 c5).2 c6) (fun rv h10 r10 => zri_imp r10 (fun v10 r10' => ?_)))
          refine zQ_goto zp_176 rfl (t := 63) rfl ?_
          exact zQ_retI zp_176 rfl r10'
      · refine zQ_seq 2 (pc' := 26) (L' := [some (.ref 58), some (.int a1), some (.int a2)]) (S' := [.int a1, .ref 58]) (h' := h3) zp_176 rfl ?_
        refine zQ_cvI (M' := 159) (as := [.ref 58, .int a1]) (S' := []) zp_176 rfl rfl zp_159 (Or.inl rfl) rfl rfl (zqm_imp ((r3'.1 c4).2 c5) (fun rv h11 r11 => zri_imp r11 (fun v11 r11' => ?_)))
        refine zQ_goto zp_176 rfl (t := 63) rfl ?_
        exact zQ_retI zp_176 rfl r11'
    · refine zQ_seq 1 (pc' := 19) (L' := [some (.ref 58), some (.int a1), some (.int a2)]) (S' := [.int (-1000001 : Int32)]) (h' := h3) zp_176 rfl ?_
      exact zQ_retI zp_176 rfl (r3'.2 c4)
theorem s_177 {h : zH} {Q : Option Value → zH → Prop} (a1 : Int32) (H : (∀ n, zQ n 177 4 [some (.ref 58), some (.int a1), some (.int (Int32.ofInt 0)), some (.int (Int32.ofInt 0))] [] h Q)) : zqm 177 [.ref 58, .int a1] h Q := by
  refine zqm_of zp_177 (fun n => ?_)
  have H := H n
  show zQ n 177 0 [some (.ref 58), some (.int a1), none, none] [] h Q
  refine zQ_seq 4 (pc' := 4) (L' := [some (.ref 58), some (.int a1), some (.int (Int32.ofInt 0)), some (.int (Int32.ofInt 0))]) (S' := []) (h' := h) zp_177 rfl ?_
  exact H
theorem s_177_4 {n : Nat} {h : zH} {Q : Option Value → zH → Prop} (x1 : Int32) (x2 : Int32) (x3 : Int32) (H : (((h.1 64 57).toInt ≤ x3.toInt → Q (some (.int x2)) h) ∧ (¬ ((h.1 64 57).toInt ≤ x3.toInt) → zqm 164 [.ref 58, .int x3, .int x1] h (fun rv h2 => zri rv (fun v2 => ((¬ v2.toInt = 0 → zQ n 177 4 [some (.ref 58), some (.int x1), some (.int (x2 ||| (Int32.ofInt 0))), some (.int (x3 + Int32.ofInt 1))] [] h2 Q) ∧ (¬ (¬ v2.toInt = 0) → zQ n 177 4 [some (.ref 58), some (.int x1), some (.int (x2 ||| ((Int32.ofInt 1) <<< (x3 &&& 31)))), some (.int (x3 + Int32.ofInt 1))] [] h2 Q))))))) : zQ (n + 1) 177 4 [some (.ref 58), some (.int x1), some (.int x2), some (.int x3)] [] h Q := by
  refine zQ_seqL 3 (pc' := 11) (L' := [some (.ref 58), some (.int x1), some (.int x2), some (.int x3)]) (S' := [.int (Int32.ofInt 57), .ref 64, .int x3]) (h' := h) zp_177 rfl ?_
  refine zQ_ialk 57 (N := 62) (f := h.1 64) zp_177 rfl rfl kc_57 ?_
  refine zQ_ic zp_177 rfl (t := 40) rfl (i := x3.toInt) (j := (h.1 64 57).toInt) rfl rfl (fun c1 => ?_) (fun c1 => ?_)
  · refine zQ_seq 1 (pc' := 41) (L' := [some (.ref 58), some (.int x1), some (.int x2), some (.int x3)]) (S' := [.int x2]) (h' := h) zp_177 rfl ?_
    exact zQ_retI zp_177 rfl (H.1 c1)
  · refine zQ_seq 4 (pc' := 19) (L' := [some (.ref 58), some (.int x1), some (.int x2), some (.int x3)]) (S' := [.int x1, .int x3, .ref 58, .int x2]) (h' := h) zp_177 rfl ?_
    refine zQ_cvI (M' := 164) (as := [.ref 58, .int x3, .int x1]) (S' := [.int x2]) zp_177 rfl rfl zp_164 (Or.inl rfl) rfl rfl (zqm_imp (H.2 c1) (fun rv h2 r2 => zri_imp r2 (fun v2 r2' => ?_)))
    refine zQ_if zp_177 rfl (t := 31) rfl (i := v2.toInt) rfl (fun c3 => ?_) (fun c3 => ?_)
    · refine zQ_seq 4 (pc' := 37) (L' := [some (.ref 58), some (.int x1), some (.int (x2 ||| (Int32.ofInt 0))), some (.int (x3 + Int32.ofInt 1))]) (S' := []) (h' := h2) zp_177 rfl ?_
      refine zQ_goto zp_177 rfl (t := 4) rfl ?_
      exact (r2'.1 c3)
    · refine zQ_seq 3 (pc' := 28) (L' := [some (.ref 58), some (.int x1), some (.int x2), some (.int x3)]) (S' := [.int ((Int32.ofInt 1) <<< (x3 &&& 31)), .int x2]) (h' := h2) zp_177 rfl ?_
      refine zQ_goto zp_177 rfl (t := 32) rfl ?_
      refine zQ_seq 3 (pc' := 37) (L' := [some (.ref 58), some (.int x1), some (.int (x2 ||| ((Int32.ofInt 1) <<< (x3 &&& 31)))), some (.int (x3 + Int32.ofInt 1))]) (S' := []) (h' := h2) zp_177 rfl ?_
      refine zQ_goto zp_177 rfl (t := 4) rfl ?_
      exact (r2'.2 c3)
theorem s_178 {h : zH} {Q : Option Value → zH → Prop} (a1 : Int32) (H : zqm 150 [.ref 58] h (fun rv h1 => zri rv (fun v1 => ((¬ v1.toInt = 0 → zqm 121 [.int a1, .int (Int32.ofInt 0), .int (Int32.ofInt 2)] h1 (fun rv h3 => zri rv (fun v3 => ((¬ v3.toInt = 0 → zqm 156 [.ref 58, .ref 64] h3 (fun rv h5 => zri rv (fun v5 => ((¬ a1.toInt = 0 → ((¬ a1.toInt = (1 : Int) → zqm 177 [.ref 58, .int v5] h5 (fun rv h8 => zri rv (fun v8 => Q (some (.int v8)) h8))) ∧ (¬ (¬ a1.toInt = (1 : Int)) → zqm 157 [.ref 58] h5 (fun rv h9 => zri rv (fun v9 => Q (some (.int v9)) h9))))) ∧ (¬ (¬ a1.toInt = 0) → Q (some (.int v5)) h5))))) ∧ (¬ (¬ v3.toInt = 0) → Q (some (.int (-1000001 : Int32))) h3))))) ∧ (¬ (¬ v1.toInt = 0) → Q (some (.int (-1000002 : Int32))) h1))))) : zqm 178 [.ref 58, .int a1] h Q := by
  refine zqm_of zp_178 (fun n => ?_)
  show zQ n 178 0 [some (.ref 58), some (.int a1), none] [] h Q
  refine zQ_seq 1 (pc' := 1) (L' := [some (.ref 58), some (.int a1), none]) (S' := [.ref 58]) (h' := h) zp_178 rfl ?_
  refine zQ_cvI (M' := 150) (as := [.ref 58]) (S' := []) zp_178 rfl rfl zp_150 (Or.inr rfl) rfl rfl (zqm_imp H (fun rv h1 r1 => zri_imp r1 (fun v1 r1' => ?_)))
  refine zQ_if zp_178 rfl (t := 10) rfl (i := v1.toInt) rfl (fun c2 => ?_) (fun c2 => ?_)
  · refine zQ_seq 3 (pc' := 13) (L' := [some (.ref 58), some (.int a1), none]) (S' := [.int (Int32.ofInt 2), .int (Int32.ofInt 0), .int a1]) (h' := h1) zp_178 rfl ?_
    refine zQ_csI (M' := 121) (as := [.int a1, .int (Int32.ofInt 0), .int (Int32.ofInt 2)]) (S' := []) zp_178 rfl rfl rfl zp_121 (Or.inr rfl) rfl rfl (zqm_imp (r1'.1 c2) (fun rv h3 r3 => zri_imp r3 (fun v3 r3' => ?_)))
    refine zQ_if zp_178 rfl (t := 22) rfl (i := v3.toInt) rfl (fun c4 => ?_) (fun c4 => ?_)
    · refine zQ_seq 3 (pc' := 27) (L' := [some (.ref 58), some (.int a1), none]) (S' := [.ref 64, .ref 58]) (h' := h3) zp_178 rfl ?_
      refine zQ_cvI (M' := 156) (as := [.ref 58, .ref 64]) (S' := []) zp_178 rfl rfl zp_156 (Or.inl rfl) rfl rfl (zqm_imp (r3'.1 c4) (fun rv h5 r5 => zri_imp r5 (fun v5 r5' => ?_)))
      refine zQ_seq 2 (pc' := 32) (L' := [some (.ref 58), some (.int a1), some (.int v5)]) (S' := [.int a1]) (h' := h5) zp_178 rfl ?_
      refine zQ_if zp_178 rfl (t := 39) rfl (i := a1.toInt) rfl (fun c6 => ?_) (fun c6 => ?_)
      · refine zQ_seq 2 (pc' := 41) (L' := [some (.ref 58), some (.int a1), some (.int v5)]) (S' := [.int (Int32.ofInt 1), .int a1]) (h' := h5) zp_178 rfl ?_
        refine zQ_ic zp_178 rfl (t := 51) rfl (i := a1.toInt) (j := (1 : Int)) rfl kc_1 (fun c7 => ?_) (fun c7 => ?_)
        · refine zQ_seq 2 (pc' := 53) (L' := [some (.ref 58), some (.int a1), some (.int v5)]) (S' := [.int v5, .ref 58]) (h' := h5) zp_178 rfl ?_
          refine zQ_cvI (M' := 177) (as := [.ref 58, .int v5]) (S' := []) zp_178 rfl rfl zp_177 (Or.inl rfl) rfl rfl (zqm_imp ((r5'.1 c6).1 c7) (fun rv h8 r8 => zri_imp r8 (fun v8 r8' => ?_)))
          exact zQ_retI zp_178 rfl r8'
        · refine zQ_seq 1 (pc' := 45) (L' := [some (.ref 58), some (.int a1), some (.int v5)]) (S' := [.ref 58]) (h' := h5) zp_178 rfl ?_
          refine zQ_cvI (M' := 157) (as := [.ref 58]) (S' := []) zp_178 rfl rfl zp_157 (Or.inl rfl) rfl rfl (zqm_imp ((r5'.1 c6).2 c7) (fun rv h9 r9 => zri_imp r9 (fun v9 r9' => ?_)))
          refine zQ_goto zp_178 rfl (t := 56) rfl ?_
          exact zQ_retI zp_178 rfl r9'
      · refine zQ_seq 1 (pc' := 36) (L' := [some (.ref 58), some (.int a1), some (.int v5)]) (S' := [.int v5]) (h' := h5) zp_178 rfl ?_
        refine zQ_goto zp_178 rfl (t := 56) rfl ?_
        exact zQ_retI zp_178 rfl (r5'.2 c6)
    · refine zQ_seq 1 (pc' := 21) (L' := [some (.ref 58), some (.int a1), none]) (S' := [.int (-1000001 : Int32)]) (h' := h3) zp_178 rfl ?_
      exact zQ_retI zp_178 rfl (r3'.2 c4)
  · refine zQ_seq 1 (pc' := 9) (L' := [some (.ref 58), some (.int a1), none]) (S' := [.int (-1000002 : Int32)]) (h' := h1) zp_178 rfl ?_
    exact zQ_retI zp_178 rfl (r1'.2 c2)
theorem s_179_58_64_67 {h : zH} {Q : Option Value → zH → Prop} (H : (∀ n, zQ n 179 2 [some (.ref 58), some (.ref 64), some (.ref 67), some (.int (Int32.ofInt 0))] [] h Q)) : zqm 179 [.ref 58, .ref 64, .ref 67] h Q := by
  refine zqm_of zp_179 (fun n => ?_)
  have H := H n
  show zQ n 179 0 [some (.ref 58), some (.ref 64), some (.ref 67), none] [] h Q
  refine zQ_seq 2 (pc' := 2) (L' := [some (.ref 58), some (.ref 64), some (.ref 67), some (.int (Int32.ofInt 0))]) (S' := []) (h' := h) zp_179 rfl ?_
  exact H
theorem s_179_58_64_67_2 {n : Nat} {h : zH} {Q : Option Value → zH → Prop} (x3 : Int32) (H : (((62 : Int) ≤ x3.toInt → Q none h) ∧ (¬ ((62 : Int) ≤ x3.toInt) → (0 ≤ x3.toInt → x3.toInt < 62 → (0 ≤ x3.toInt → x3.toInt < 62 → zQ n 179 2 [some (.ref 58), some (.ref 64), some (.ref 67), some (.int (x3 + Int32.ofInt 1))] [] (zSet h 67 x3.toInt.toNat (h.1 64 x3.toInt.toNat)) Q))))) : zQ (n + 1) 179 2 [some (.ref 58), some (.ref 64), some (.ref 67), some (.int x3)] [] h Q := by
  refine zQ_seqL 1 (pc' := 5) (L' := [some (.ref 58), some (.ref 64), some (.ref 67), some (.int x3)]) (S' := [.int (Int32.ofInt 62), .int x3]) (h' := h) zp_179 rfl ?_
  refine zQ_ic zp_179 rfl (t := 20) rfl (i := x3.toInt) (j := (62 : Int)) rfl kc_62 (fun c1 => ?_) (fun c1 => ?_)
  · exact zQ_retV zp_179 rfl (H.1 c1)
  · refine zQ_seq 4 (pc' := 12) (L' := [some (.ref 58), some (.ref 64), some (.ref 67), some (.int x3)]) (S' := [.int x3, .ref 64, .int x3, .ref 67]) (h' := h) zp_179 rfl ?_
    refine zQ_ial (N := 62) (f := h.1 64) zp_179 rfl rfl rfl (fun b2 b2' => ?_)
    refine zQ_ias (N := 62) zp_179 rfl rfl rfl (fun b3 b3' => ?_)
    refine zQ_seq 1 (pc' := 17) (L' := [some (.ref 58), some (.ref 64), some (.ref 67), some (.int (x3 + Int32.ofInt 1))]) (S' := []) (h' := (zSet h 67 x3.toInt.toNat (h.1 64 x3.toInt.toNat))) zp_179 rfl ?_
    refine zQ_goto zp_179 rfl (t := 2) rfl ?_
    exact (((H.2 c1) b2 b2') b3 b3')
theorem s_179_58_67_68 {h : zH} {Q : Option Value → zH → Prop} (H : (∀ n, zQ n 179 2 [some (.ref 58), some (.ref 67), some (.ref 68), some (.int (Int32.ofInt 0))] [] h Q)) : zqm 179 [.ref 58, .ref 67, .ref 68] h Q := by
  refine zqm_of zp_179 (fun n => ?_)
  have H := H n
  show zQ n 179 0 [some (.ref 58), some (.ref 67), some (.ref 68), none] [] h Q
  refine zQ_seq 2 (pc' := 2) (L' := [some (.ref 58), some (.ref 67), some (.ref 68), some (.int (Int32.ofInt 0))]) (S' := []) (h' := h) zp_179 rfl ?_
  exact H
theorem s_179_58_67_68_2 {n : Nat} {h : zH} {Q : Option Value → zH → Prop} (x3 : Int32) (H : (((62 : Int) ≤ x3.toInt → Q none h) ∧ (¬ ((62 : Int) ≤ x3.toInt) → (0 ≤ x3.toInt → x3.toInt < 62 → (0 ≤ x3.toInt → x3.toInt < 62 → zQ n 179 2 [some (.ref 58), some (.ref 67), some (.ref 68), some (.int (x3 + Int32.ofInt 1))] [] (zSet h 68 x3.toInt.toNat (h.1 67 x3.toInt.toNat)) Q))))) : zQ (n + 1) 179 2 [some (.ref 58), some (.ref 67), some (.ref 68), some (.int x3)] [] h Q := by
  refine zQ_seqL 1 (pc' := 5) (L' := [some (.ref 58), some (.ref 67), some (.ref 68), some (.int x3)]) (S' := [.int (Int32.ofInt 62), .int x3]) (h' := h) zp_179 rfl ?_
  refine zQ_ic zp_179 rfl (t := 20) rfl (i := x3.toInt) (j := (62 : Int)) rfl kc_62 (fun c1 => ?_) (fun c1 => ?_)
  · exact zQ_retV zp_179 rfl (H.1 c1)
  · refine zQ_seq 4 (pc' := 12) (L' := [some (.ref 58), some (.ref 67), some (.ref 68), some (.int x3)]) (S' := [.int x3, .ref 67, .int x3, .ref 68]) (h' := h) zp_179 rfl ?_
    refine zQ_ial (N := 62) (f := h.1 67) zp_179 rfl rfl rfl (fun b2 b2' => ?_)
    refine zQ_ias (N := 62) zp_179 rfl rfl rfl (fun b3 b3' => ?_)
    refine zQ_seq 1 (pc' := 17) (L' := [some (.ref 58), some (.ref 67), some (.ref 68), some (.int (x3 + Int32.ofInt 1))]) (S' := []) (h' := (zSet h 68 x3.toInt.toNat (h.1 67 x3.toInt.toNat))) zp_179 rfl ?_
    refine zQ_goto zp_179 rfl (t := 2) rfl ?_
    exact (((H.2 c1) b2 b2') b3 b3')
theorem s_179_58_68_67 {h : zH} {Q : Option Value → zH → Prop} (H : (∀ n, zQ n 179 2 [some (.ref 58), some (.ref 68), some (.ref 67), some (.int (Int32.ofInt 0))] [] h Q)) : zqm 179 [.ref 58, .ref 68, .ref 67] h Q := by
  refine zqm_of zp_179 (fun n => ?_)
  have H := H n
  show zQ n 179 0 [some (.ref 58), some (.ref 68), some (.ref 67), none] [] h Q
  refine zQ_seq 2 (pc' := 2) (L' := [some (.ref 58), some (.ref 68), some (.ref 67), some (.int (Int32.ofInt 0))]) (S' := []) (h' := h) zp_179 rfl ?_
  exact H
theorem s_179_58_68_67_2 {n : Nat} {h : zH} {Q : Option Value → zH → Prop} (x3 : Int32) (H : (((62 : Int) ≤ x3.toInt → Q none h) ∧ (¬ ((62 : Int) ≤ x3.toInt) → (0 ≤ x3.toInt → x3.toInt < 62 → (0 ≤ x3.toInt → x3.toInt < 62 → zQ n 179 2 [some (.ref 58), some (.ref 68), some (.ref 67), some (.int (x3 + Int32.ofInt 1))] [] (zSet h 67 x3.toInt.toNat (h.1 68 x3.toInt.toNat)) Q))))) : zQ (n + 1) 179 2 [some (.ref 58), some (.ref 68), some (.ref 67), some (.int x3)] [] h Q := by
  refine zQ_seqL 1 (pc' := 5) (L' := [some (.ref 58), some (.ref 68), some (.ref 67), some (.int x3)]) (S' := [.int (Int32.ofInt 62), .int x3]) (h' := h) zp_179 rfl ?_
  refine zQ_ic zp_179 rfl (t := 20) rfl (i := x3.toInt) (j := (62 : Int)) rfl kc_62 (fun c1 => ?_) (fun c1 => ?_)
  · exact zQ_retV zp_179 rfl (H.1 c1)
  · refine zQ_seq 4 (pc' := 12) (L' := [some (.ref 58), some (.ref 68), some (.ref 67), some (.int x3)]) (S' := [.int x3, .ref 68, .int x3, .ref 67]) (h' := h) zp_179 rfl ?_
    refine zQ_ial (N := 62) (f := h.1 68) zp_179 rfl rfl rfl (fun b2 b2' => ?_)
    refine zQ_ias (N := 62) zp_179 rfl rfl rfl (fun b3 b3' => ?_)
    refine zQ_seq 1 (pc' := 17) (L' := [some (.ref 58), some (.ref 68), some (.ref 67), some (.int (x3 + Int32.ofInt 1))]) (S' := []) (h' := (zSet h 67 x3.toInt.toNat (h.1 68 x3.toInt.toNat))) zp_179 rfl ?_
    refine zQ_goto zp_179 rfl (t := 2) rfl ?_
    exact (((H.2 c1) b2 b2') b3 b3')
theorem s_180 {h : zH} {Q : Option Value → zH → Prop} (a1 : Int32) (H : zqm 156 [.ref 58, .ref 67] h (fun rv h1 => zri rv (fun v1 => ((¬ a1.toInt = (1 : Int) → zqm 166 [.ref 58, .int v1] h1 (fun rv h3 => zri rv (fun v3 => ((¬ v3.toInt = 0 → Q (some (.int (Int32.ofInt 0))) h3) ∧ (¬ (¬ v3.toInt = 0) → Q (some (.int (Int32.ofInt 1))) h3))))) ∧ (¬ (¬ a1.toInt = (1 : Int)) → ((¬ v1.toInt = 0 → Q (some (.int (Int32.ofInt 0))) h1) ∧ (¬ (¬ v1.toInt = 0) → Q (some (.int (Int32.ofInt 1))) h1))))))) : zqm 180 [.ref 58, .int a1] h Q := by
  refine zqm_of zp_180 (fun n => ?_)
  show zQ n 180 0 [some (.ref 58), some (.int a1), none] [] h Q
  refine zQ_seq 3 (pc' := 5) (L' := [some (.ref 58), some (.int a1), none]) (S' := [.ref 67, .ref 58]) (h' := h) zp_180 rfl ?_
  refine zQ_cvI (M' := 156) (as := [.ref 58, .ref 67]) (S' := []) zp_180 rfl rfl zp_156 (Or.inl rfl) rfl rfl (zqm_imp H (fun rv h1 r1 => zri_imp r1 (fun v1 r1' => ?_)))
  refine zQ_seq 3 (pc' := 11) (L' := [some (.ref 58), some (.int a1), some (.int v1)]) (S' := [.int (Int32.ofInt 1), .int a1]) (h' := h1) zp_180 rfl ?_
  refine zQ_ic zp_180 rfl (t := 26) rfl (i := a1.toInt) (j := (1 : Int)) rfl kc_1 (fun c2 => ?_) (fun c2 => ?_)
  · refine zQ_seq 2 (pc' := 28) (L' := [some (.ref 58), some (.int a1), some (.int v1)]) (S' := [.int v1, .ref 58]) (h' := h1) zp_180 rfl ?_
    refine zQ_cvI (M' := 166) (as := [.ref 58, .int v1]) (S' := []) zp_180 rfl rfl zp_166 (Or.inl rfl) rfl rfl (zqm_imp (r1'.1 c2) (fun rv h3 r3 => zri_imp r3 (fun v3 r3' => ?_)))
    refine zQ_if zp_180 rfl (t := 38) rfl (i := v3.toInt) rfl (fun c4 => ?_) (fun c4 => ?_)
    · refine zQ_seq 1 (pc' := 39) (L' := [some (.ref 58), some (.int a1), some (.int v1)]) (S' := [.int (Int32.ofInt 0)]) (h' := h3) zp_180 rfl ?_
      exact zQ_retI zp_180 rfl (r3'.1 c4)
    · refine zQ_seq 1 (pc' := 35) (L' := [some (.ref 58), some (.int a1), some (.int v1)]) (S' := [.int (Int32.ofInt 1)]) (h' := h3) zp_180 rfl ?_
      refine zQ_goto zp_180 rfl (t := 39) rfl ?_
      exact zQ_retI zp_180 rfl (r3'.2 c4)
  · refine zQ_seq 1 (pc' := 15) (L' := [some (.ref 58), some (.int a1), some (.int v1)]) (S' := [.int v1]) (h' := h1) zp_180 rfl ?_
    refine zQ_if zp_180 rfl (t := 22) rfl (i := v1.toInt) rfl (fun c5 => ?_) (fun c5 => ?_)
    · refine zQ_seq 1 (pc' := 23) (L' := [some (.ref 58), some (.int a1), some (.int v1)]) (S' := [.int (Int32.ofInt 0)]) (h' := h1) zp_180 rfl ?_
      refine zQ_goto zp_180 rfl (t := 39) rfl ?_
      exact zQ_retI zp_180 rfl ((r1'.2 c2).1 c5)
    · refine zQ_seq 1 (pc' := 19) (L' := [some (.ref 58), some (.int a1), some (.int v1)]) (S' := [.int (Int32.ofInt 1)]) (h' := h1) zp_180 rfl ?_
      refine zQ_goto zp_180 rfl (t := 39) rfl ?_
      exact zQ_retI zp_180 rfl ((r1'.2 c2).2 c5)
theorem s_181 {h : zH} {Q : Option Value → zH → Prop} (a1 : Int32) (H : (∀ n, zqm 179 [.ref 58, .ref 64, .ref 67] h (fun _ h1 => zqm 180 [.ref 58, .int a1] h1 (fun rv h2 => zri rv (fun v2 => ((v2.toInt = 0 → zQ n 181 24 [some (.ref 58), some (.int a1), some (.int (Int32.ofInt 0)), none] [] h2 Q) ∧ (¬ (v2.toInt = 0) → Q (some (.int (Int32.ofInt 0))) h2))))))) : zqm 181 [.ref 58, .int a1] h Q := by
  refine zqm_of zp_181 (fun n => ?_)
  have H := H n
  show zQ n 181 0 [some (.ref 58), some (.int a1), none, none] [] h Q
  refine zQ_seq 5 (pc' := 9) (L' := [some (.ref 58), some (.int a1), none, none]) (S' := [.ref 67, .ref 64, .ref 58]) (h' := h) zp_181 rfl ?_
  refine zQ_cvV (M' := 179) (as := [.ref 58, .ref 64, .ref 67]) (S' := []) zp_181 rfl rfl zp_179 rfl rfl rfl (zqm_imp H (fun rv h1 r1 => ?_))
  refine zQ_seq 2 (pc' := 14) (L' := [some (.ref 58), some (.int a1), none, none]) (S' := [.int a1, .ref 58]) (h' := h1) zp_181 rfl ?_
  refine zQ_cvI (M' := 180) (as := [.ref 58, .int a1]) (S' := []) zp_181 rfl rfl zp_180 (Or.inr rfl) rfl rfl (zqm_imp r1 (fun rv h2 r2 => zri_imp r2 (fun v2 r2' => ?_)))
  refine zQ_if zp_181 rfl (t := 22) rfl (i := v2.toInt) rfl (fun c3 => ?_) (fun c3 => ?_)
  · refine zQ_seq 2 (pc' := 24) (L' := [some (.ref 58), some (.int a1), some (.int (Int32.ofInt 0)), none]) (S' := []) (h' := h2) zp_181 rfl ?_
    exact (r2'.1 c3)
  · refine zQ_seq 1 (pc' := 21) (L' := [some (.ref 58), some (.int a1), none, none]) (S' := [.int (Int32.ofInt 0)]) (h' := h2) zp_181 rfl ?_
    exact zQ_retI zp_181 rfl (r2'.2 c3)
theorem s_181_24 {n : Nat} {h : zH} {Q : Option Value → zH → Prop} (x1 : Int32) (x2 : Int32) (H : (((60 : Int) ≤ x2.toInt → zQ n 181 67 [some (.ref 58), some (.int x1), some (.int (Int32.ofInt 0)), none] [] h Q) ∧ (¬ ((60 : Int) ≤ x2.toInt) → zqm 182 [.ref 58, .int x2, .ref 64] h (fun rv h2 => zri rv (fun v2 => ((v2.toInt = 0 → zQ n 181 24 [some (.ref 58), some (.int x1), some (.int (x2 + Int32.ofInt 1)), none] [] h2 Q) ∧ (¬ (v2.toInt = 0) → zqm 180 [.ref 58, .int x1] h2 (fun rv h4 => zri rv (fun v4 => ((v4.toInt = 0 → zQ n 181 24 [some (.ref 58), some (.int x1), some (.int (x2 + Int32.ofInt 1)), none] [] h4 Q) ∧ (¬ (v4.toInt = 0) → Q (some (.int (Int32.ofInt 1))) (zSet h4 69 0 x2)))))))))))) : zQ (n + 1) 181 24 [some (.ref 58), some (.int x1), some (.int x2), none] [] h Q := by
  refine zQ_seqL 1 (pc' := 27) (L' := [some (.ref 58), some (.int x1), some (.int x2), none]) (S' := [.int (Int32.ofInt 60), .int x2]) (h' := h) zp_181 rfl ?_
  refine zQ_ic zp_181 rfl (t := 65) rfl (i := x2.toInt) (j := (60 : Int)) rfl kc_60 (fun c1 => ?_) (fun c1 => ?_)
  · refine zQ_seq 2 (pc' := 67) (L' := [some (.ref 58), some (.int x1), some (.int (Int32.ofInt 0)), none]) (S' := []) (h' := h) zp_181 rfl ?_
    exact (H.1 c1)
  · refine zQ_seq 4 (pc' := 36) (L' := [some (.ref 58), some (.int x1), some (.int x2), none]) (S' := [.ref 64, .int x2, .ref 58]) (h' := h) zp_181 rfl ?_
    refine zQ_cvI (M' := 182) (as := [.ref 58, .int x2, .ref 64]) (S' := []) zp_181 rfl rfl zp_182 (Or.inr rfl) rfl rfl (zqm_imp (H.2 c1) (fun rv h2 r2 => zri_imp r2 (fun v2 r2' => ?_)))
    refine zQ_if zp_181 rfl (t := 59) rfl (i := v2.toInt) rfl (fun c3 => ?_) (fun c3 => ?_)
    · refine zQ_seq 1 (pc' := 62) (L' := [some (.ref 58), some (.int x1), some (.int (x2 + Int32.ofInt 1)), none]) (S' := []) (h' := h2) zp_181 rfl ?_
      refine zQ_goto zp_181 rfl (t := 24) rfl ?_
      exact (r2'.1 c3)
    · refine zQ_seq 2 (pc' := 44) (L' := [some (.ref 58), some (.int x1), some (.int x2), none]) (S' := [.int x1, .ref 58]) (h' := h2) zp_181 rfl ?_
      refine zQ_cvI (M' := 180) (as := [.ref 58, .int x1]) (S' := []) zp_181 rfl rfl zp_180 (Or.inr rfl) rfl rfl (zqm_imp (r2'.2 c3) (fun rv h4 r4 => zri_imp r4 (fun v4 r4' => ?_)))
      refine zQ_if zp_181 rfl (t := 59) rfl (i := v4.toInt) rfl (fun c5 => ?_) (fun c5 => ?_)
      · refine zQ_seq 1 (pc' := 62) (L' := [some (.ref 58), some (.int x1), some (.int (x2 + Int32.ofInt 1)), none]) (S' := []) (h' := h4) zp_181 rfl ?_
        refine zQ_goto zp_181 rfl (t := 24) rfl ?_
        exact (r4'.1 c5)
      · refine zQ_seq 4 (pc' := 56) (L' := [some (.ref 58), some (.int x1), some (.int x2), none]) (S' := [.int x2, .int (Int32.ofInt 0), .ref 69]) (h' := h4) zp_181 rfl ?_
        refine zQ_iask 0 (N := 2) zp_181 rfl rfl kc_0 ?_
        refine zQ_seq 1 (pc' := 58) (L' := [some (.ref 58), some (.int x1), some (.int x2), none]) (S' := [.int (Int32.ofInt 1)]) (h' := (zSet h4 69 0 x2)) zp_181 rfl ?_
        exact zQ_retI zp_181 rfl (r4'.2 c5)
theorem s_181_67 {n : Nat} {h : zH} {Q : Option Value → zH → Prop} (x1 : Int32) (x2 : Int32) (o3 : Option Value) (H : (((60 : Int) ≤ x2.toInt → Q (some (.int (Int32.ofInt 3))) h) ∧ (¬ ((60 : Int) ≤ x2.toInt) → zqm 182 [.ref 58, .int x2, .ref 64] h (fun rv h2 => zri rv (fun v2 => ((v2.toInt = 0 → zQ n 181 67 [some (.ref 58), some (.int x1), some (.int (x2 + Int32.ofInt 1)), o3] [] h2 Q) ∧ (¬ (v2.toInt = 0) → zqm 179 [.ref 58, .ref 67, .ref 68] h2 (fun _ h4 => zQ n 181 99 [some (.ref 58), some (.int x1), some (.int x2), some (.int (Int32.ofInt 0))] [] h4 Q)))))))) : zQ (n + 1) 181 67 [some (.ref 58), some (.int x1), some (.int x2), o3] [] h Q := by
  refine zQ_seqL 1 (pc' := 70) (L' := [some (.ref 58), some (.int x1), some (.int x2), o3]) (S' := [.int (Int32.ofInt 60), .int x2]) (h' := h) zp_181 rfl ?_
  refine zQ_ic zp_181 rfl (t := 153) rfl (i := x2.toInt) (j := (60 : Int)) rfl kc_60 (fun c1 => ?_) (fun c1 => ?_)
  · refine zQ_seq 1 (pc' := 154) (L' := [some (.ref 58), some (.int x1), some (.int x2), o3]) (S' := [.int (Int32.ofInt 3)]) (h' := h) zp_181 rfl ?_
    exact zQ_retI zp_181 rfl (H.1 c1)
  · refine zQ_seq 4 (pc' := 79) (L' := [some (.ref 58), some (.int x1), some (.int x2), o3]) (S' := [.ref 64, .int x2, .ref 58]) (h' := h) zp_181 rfl ?_
    refine zQ_cvI (M' := 182) (as := [.ref 58, .int x2, .ref 64]) (S' := []) zp_181 rfl rfl zp_182 (Or.inr rfl) rfl rfl (zqm_imp (H.2 c1) (fun rv h2 r2 => zri_imp r2 (fun v2 r2' => ?_)))
    refine zQ_if zp_181 rfl (t := 147) rfl (i := v2.toInt) rfl (fun c3 => ?_) (fun c3 => ?_)
    · refine zQ_seq 1 (pc' := 150) (L' := [some (.ref 58), some (.int x1), some (.int (x2 + Int32.ofInt 1)), o3]) (S' := []) (h' := h2) zp_181 rfl ?_
      refine zQ_goto zp_181 rfl (t := 67) rfl ?_
      exact (r2'.1 c3)
    · refine zQ_seq 5 (pc' := 94) (L' := [some (.ref 58), some (.int x1), some (.int x2), o3]) (S' := [.ref 68, .ref 67, .ref 58]) (h' := h2) zp_181 rfl ?_
      refine zQ_cvV (M' := 179) (as := [.ref 58, .ref 67, .ref 68]) (S' := []) zp_181 rfl rfl zp_179 rfl rfl rfl (zqm_imp (r2'.2 c3) (fun rv h4 r4 => ?_))
      refine zQ_seq 2 (pc' := 99) (L' := [some (.ref 58), some (.int x1), some (.int x2), some (.int (Int32.ofInt 0))]) (S' := []) (h' := h4) zp_181 rfl ?_
      exact r4
theorem s_181_99 {n : Nat} {h : zH} {Q : Option Value → zH → Prop} (x1 : Int32) (x2 : Int32) (x3 : Int32) (H : (((60 : Int) ≤ x3.toInt → zQ n 181 67 [some (.ref 58), some (.int x1), some (.int (x2 + Int32.ofInt 1)), some (.int x3)] [] h Q) ∧ (¬ ((60 : Int) ≤ x3.toInt) → zqm 182 [.ref 58, .int x3, .ref 68] h (fun rv h2 => zri rv (fun v2 => ((v2.toInt = 0 → zQ n 181 99 [some (.ref 58), some (.int x1), some (.int x2), some (.int (x3 + Int32.ofInt 1))] [] h2 Q) ∧ (¬ (v2.toInt = 0) → zqm 180 [.ref 58, .int x1] h2 (fun rv h4 => zri rv (fun v4 => ((v4.toInt = 0 → zQ n 181 99 [some (.ref 58), some (.int x1), some (.int x2), some (.int (x3 + Int32.ofInt 1))] [] h4 Q) ∧ (¬ (v4.toInt = 0) → Q (some (.int (Int32.ofInt 2))) (zSet (zSet h4 69 0 x2) 69 1 x3)))))))))))) : zQ (n + 1) 181 99 [some (.ref 58), some (.int x1), some (.int x2), some (.int x3)] [] h Q := by
  refine zQ_seqL 1 (pc' := 102) (L' := [some (.ref 58), some (.int x1), some (.int x2), some (.int x3)]) (S' := [.int (Int32.ofInt 60), .int x3]) (h' := h) zp_181 rfl ?_
  refine zQ_ic zp_181 rfl (t := 147) rfl (i := x3.toInt) (j := (60 : Int)) rfl kc_60 (fun c1 => ?_) (fun c1 => ?_)
  · refine zQ_seq 1 (pc' := 150) (L' := [some (.ref 58), some (.int x1), some (.int (x2 + Int32.ofInt 1)), some (.int x3)]) (S' := []) (h' := h) zp_181 rfl ?_
    refine zQ_goto zp_181 rfl (t := 67) rfl ?_
    exact (H.1 c1)
  · refine zQ_seq 4 (pc' := 111) (L' := [some (.ref 58), some (.int x1), some (.int x2), some (.int x3)]) (S' := [.ref 68, .int x3, .ref 58]) (h' := h) zp_181 rfl ?_
    refine zQ_cvI (M' := 182) (as := [.ref 58, .int x3, .ref 68]) (S' := []) zp_181 rfl rfl zp_182 (Or.inr rfl) rfl rfl (zqm_imp (H.2 c1) (fun rv h2 r2 => zri_imp r2 (fun v2 r2' => ?_)))
    refine zQ_if zp_181 rfl (t := 141) rfl (i := v2.toInt) rfl (fun c3 => ?_) (fun c3 => ?_)
    · refine zQ_seq 1 (pc' := 144) (L' := [some (.ref 58), some (.int x1), some (.int x2), some (.int (x3 + Int32.ofInt 1))]) (S' := []) (h' := h2) zp_181 rfl ?_
      refine zQ_goto zp_181 rfl (t := 99) rfl ?_
      exact (r2'.1 c3)
    · refine zQ_seq 2 (pc' := 119) (L' := [some (.ref 58), some (.int x1), some (.int x2), some (.int x3)]) (S' := [.int x1, .ref 58]) (h' := h2) zp_181 rfl ?_
      refine zQ_cvI (M' := 180) (as := [.ref 58, .int x1]) (S' := []) zp_181 rfl rfl zp_180 (Or.inr rfl) rfl rfl (zqm_imp (r2'.2 c3) (fun rv h4 r4 => zri_imp r4 (fun v4 r4' => ?_)))
      refine zQ_if zp_181 rfl (t := 141) rfl (i := v4.toInt) rfl (fun c5 => ?_) (fun c5 => ?_)
      · refine zQ_seq 1 (pc' := 144) (L' := [some (.ref 58), some (.int x1), some (.int x2), some (.int (x3 + Int32.ofInt 1))]) (S' := []) (h' := h4) zp_181 rfl ?_
        refine zQ_goto zp_181 rfl (t := 99) rfl ?_
        exact (r4'.1 c5)
      · refine zQ_seq 4 (pc' := 131) (L' := [some (.ref 58), some (.int x1), some (.int x2), some (.int x3)]) (S' := [.int x2, .int (Int32.ofInt 0), .ref 69]) (h' := h4) zp_181 rfl ?_
        refine zQ_iask 0 (N := 2) zp_181 rfl rfl kc_0 ?_
        refine zQ_seq 4 (pc' := 138) (L' := [some (.ref 58), some (.int x1), some (.int x2), some (.int x3)]) (S' := [.int x3, .int (Int32.ofInt 1), .ref 69]) (h' := (zSet h4 69 0 x2)) zp_181 rfl ?_
        refine zQ_iask 1 (N := 2) zp_181 rfl rfl kc_1 ?_
        refine zQ_seq 1 (pc' := 140) (L' := [some (.ref 58), some (.int x1), some (.int x2), some (.int x3)]) (S' := [.int (Int32.ofInt 2)]) (h' := (zSet (zSet h4 69 0 x2) 69 1 x3)) zp_181 rfl ?_
        exact zQ_retI zp_181 rfl (r4'.2 c5)
theorem s_182_58_64 {h : zH} {Q : Option Value → zH → Prop} (a1 : Int32) (H : (0 ≤ ((Int32.ofInt 15) + (a1 / (Int32.ofInt 4))).toInt → ((Int32.ofInt 15) + (a1 / (Int32.ofInt 4))).toInt < 62 → ((¬ (h.1 64 ((Int32.ofInt 15) + (a1 / (Int32.ofInt 4))).toInt.toNat).toInt = (a1 - a1 / (Int32.ofInt 4) * (Int32.ofInt 4)).toInt → zqm 179 [.ref 58, .ref 64, .ref 67] h (fun _ h3 => zqm 167 [.ref 58, .ref 67, .int (a1 / (Int32.ofInt 4)), .int (a1 - a1 / (Int32.ofInt 4) * (Int32.ofInt 4))] h3 (fun _ h4 => Q (some (.int (Int32.ofInt 1))) h4))) ∧ (¬ (¬ (h.1 64 ((Int32.ofInt 15) + (a1 / (Int32.ofInt 4))).toInt.toNat).toInt = (a1 - a1 / (Int32.ofInt 4) * (Int32.ofInt 4)).toInt) → Q (some (.int (Int32.ofInt 0))) h)))) : zqm 182 [.ref 58, .int a1, .ref 64] h Q := by
  refine zqm_of zp_182 (fun n => ?_)
  show zQ n 182 0 [some (.ref 58), some (.int a1), some (.ref 64)] [] h Q
  refine zQ_seq 4 (pc' := 5) (L' := [some (.ref 58), some (.int a1), some (.ref 64)]) (S' := [.int (Int32.ofInt 4), .int a1, .int (Int32.ofInt 15), .ref 64]) (h' := h) zp_182 rfl ?_
  refine zQ_div zp_182 rfl (fun _ => ?_)
  refine zQ_seq 1 (pc' := 7) (L' := [some (.ref 58), some (.int a1), some (.ref 64)]) (S' := [.int ((Int32.ofInt 15) + (a1 / (Int32.ofInt 4))), .ref 64]) (h' := h) zp_182 rfl ?_
  refine zQ_ial (N := 62) (f := h.1 64) zp_182 rfl rfl rfl (fun b1 b1' => ?_)
  refine zQ_seq 2 (pc' := 10) (L' := [some (.ref 58), some (.int a1), some (.ref 64)]) (S' := [.int (Int32.ofInt 4), .int a1, .int (h.1 64 ((Int32.ofInt 15) + (a1 / (Int32.ofInt 4))).toInt.toNat)]) (h' := h) zp_182 rfl ?_
  refine zQ_rem zp_182 rfl (fun _ => ?_)
  refine zQ_ic zp_182 rfl (t := 16) rfl (i := (h.1 64 ((Int32.ofInt 15) + (a1 / (Int32.ofInt 4))).toInt.toNat).toInt) (j := (a1 - a1 / (Int32.ofInt 4) * (Int32.ofInt 4)).toInt) rfl rfl (fun c2 => ?_) (fun c2 => ?_)
  · refine zQ_seq 4 (pc' := 22) (L' := [some (.ref 58), some (.int a1), some (.ref 64)]) (S' := [.ref 67, .ref 64, .ref 58]) (h' := h) zp_182 rfl ?_
    refine zQ_cvV (M' := 179) (as := [.ref 58, .ref 64, .ref 67]) (S' := []) zp_182 rfl rfl zp_179 rfl rfl rfl (zqm_imp ((H b1 b1').1 c2) (fun rv h3 r3 => ?_))
    refine zQ_seq 5 (pc' := 32) (L' := [some (.ref 58), some (.int a1), some (.ref 64)]) (S' := [.int (Int32.ofInt 4), .int a1, .ref 67, .ref 58]) (h' := h3) zp_182 rfl ?_
    refine zQ_div zp_182 rfl (fun _ => ?_)
    refine zQ_seq 2 (pc' := 35) (L' := [some (.ref 58), some (.int a1), some (.ref 64)]) (S' := [.int (Int32.ofInt 4), .int a1, .int (a1 / (Int32.ofInt 4)), .ref 67, .ref 58]) (h' := h3) zp_182 rfl ?_
    refine zQ_rem zp_182 rfl (fun _ => ?_)
    refine zQ_cvV (M' := 167) (as := [.ref 58, .ref 67, .int (a1 / (Int32.ofInt 4)), .int (a1 - a1 / (Int32.ofInt 4) * (Int32.ofInt 4))]) (S' := []) zp_182 rfl rfl zp_167 rfl rfl rfl (zqm_imp r3 (fun rv h4 r4 => ?_))
    refine zQ_seq 1 (pc' := 40) (L' := [some (.ref 58), some (.int a1), some (.ref 64)]) (S' := [.int (Int32.ofInt 1)]) (h' := h4) zp_182 rfl ?_
    exact zQ_retI zp_182 rfl r4
  · refine zQ_seq 1 (pc' := 15) (L' := [some (.ref 58), some (.int a1), some (.ref 64)]) (S' := [.int (Int32.ofInt 0)]) (h' := h) zp_182 rfl ?_
    exact zQ_retI zp_182 rfl ((H b1 b1').2 c2)
theorem s_182_58_68 {h : zH} {Q : Option Value → zH → Prop} (a1 : Int32) (H : (0 ≤ ((Int32.ofInt 15) + (a1 / (Int32.ofInt 4))).toInt → ((Int32.ofInt 15) + (a1 / (Int32.ofInt 4))).toInt < 62 → ((¬ (h.1 68 ((Int32.ofInt 15) + (a1 / (Int32.ofInt 4))).toInt.toNat).toInt = (a1 - a1 / (Int32.ofInt 4) * (Int32.ofInt 4)).toInt → zqm 179 [.ref 58, .ref 68, .ref 67] h (fun _ h3 => zqm 167 [.ref 58, .ref 67, .int (a1 / (Int32.ofInt 4)), .int (a1 - a1 / (Int32.ofInt 4) * (Int32.ofInt 4))] h3 (fun _ h4 => Q (some (.int (Int32.ofInt 1))) h4))) ∧ (¬ (¬ (h.1 68 ((Int32.ofInt 15) + (a1 / (Int32.ofInt 4))).toInt.toNat).toInt = (a1 - a1 / (Int32.ofInt 4) * (Int32.ofInt 4)).toInt) → Q (some (.int (Int32.ofInt 0))) h)))) : zqm 182 [.ref 58, .int a1, .ref 68] h Q := by
  refine zqm_of zp_182 (fun n => ?_)
  show zQ n 182 0 [some (.ref 58), some (.int a1), some (.ref 68)] [] h Q
  refine zQ_seq 4 (pc' := 5) (L' := [some (.ref 58), some (.int a1), some (.ref 68)]) (S' := [.int (Int32.ofInt 4), .int a1, .int (Int32.ofInt 15), .ref 68]) (h' := h) zp_182 rfl ?_
  refine zQ_div zp_182 rfl (fun _ => ?_)
  refine zQ_seq 1 (pc' := 7) (L' := [some (.ref 58), some (.int a1), some (.ref 68)]) (S' := [.int ((Int32.ofInt 15) + (a1 / (Int32.ofInt 4))), .ref 68]) (h' := h) zp_182 rfl ?_
  refine zQ_ial (N := 62) (f := h.1 68) zp_182 rfl rfl rfl (fun b1 b1' => ?_)
  refine zQ_seq 2 (pc' := 10) (L' := [some (.ref 58), some (.int a1), some (.ref 68)]) (S' := [.int (Int32.ofInt 4), .int a1, .int (h.1 68 ((Int32.ofInt 15) + (a1 / (Int32.ofInt 4))).toInt.toNat)]) (h' := h) zp_182 rfl ?_
  refine zQ_rem zp_182 rfl (fun _ => ?_)
  refine zQ_ic zp_182 rfl (t := 16) rfl (i := (h.1 68 ((Int32.ofInt 15) + (a1 / (Int32.ofInt 4))).toInt.toNat).toInt) (j := (a1 - a1 / (Int32.ofInt 4) * (Int32.ofInt 4)).toInt) rfl rfl (fun c2 => ?_) (fun c2 => ?_)
  · refine zQ_seq 4 (pc' := 22) (L' := [some (.ref 58), some (.int a1), some (.ref 68)]) (S' := [.ref 67, .ref 68, .ref 58]) (h' := h) zp_182 rfl ?_
    refine zQ_cvV (M' := 179) (as := [.ref 58, .ref 68, .ref 67]) (S' := []) zp_182 rfl rfl zp_179 rfl rfl rfl (zqm_imp ((H b1 b1').1 c2) (fun rv h3 r3 => ?_))
    refine zQ_seq 5 (pc' := 32) (L' := [some (.ref 58), some (.int a1), some (.ref 68)]) (S' := [.int (Int32.ofInt 4), .int a1, .ref 67, .ref 58]) (h' := h3) zp_182 rfl ?_
    refine zQ_div zp_182 rfl (fun _ => ?_)
    refine zQ_seq 2 (pc' := 35) (L' := [some (.ref 58), some (.int a1), some (.ref 68)]) (S' := [.int (Int32.ofInt 4), .int a1, .int (a1 / (Int32.ofInt 4)), .ref 67, .ref 58]) (h' := h3) zp_182 rfl ?_
    refine zQ_rem zp_182 rfl (fun _ => ?_)
    refine zQ_cvV (M' := 167) (as := [.ref 58, .ref 67, .int (a1 / (Int32.ofInt 4)), .int (a1 - a1 / (Int32.ofInt 4) * (Int32.ofInt 4))]) (S' := []) zp_182 rfl rfl zp_167 rfl rfl rfl (zqm_imp r3 (fun rv h4 r4 => ?_))
    refine zQ_seq 1 (pc' := 40) (L' := [some (.ref 58), some (.int a1), some (.ref 68)]) (S' := [.int (Int32.ofInt 1)]) (h' := h4) zp_182 rfl ?_
    exact zQ_retI zp_182 rfl r4
  · refine zQ_seq 1 (pc' := 15) (L' := [some (.ref 58), some (.int a1), some (.ref 68)]) (S' := [.int (Int32.ofInt 0)]) (h' := h) zp_182 rfl ?_
    exact zQ_retI zp_182 rfl ((H b1 b1').2 c2)
theorem s_183 {h : zH} {Q : Option Value → zH → Prop} (a1 : Int32) (a2 : Int32) (H : zqm 150 [.ref 58] h (fun rv h1 => zri rv (fun v1 => ((¬ v1.toInt = 0 → zqm 121 [.int a1, .int (Int32.ofInt 0), .int (Int32.ofInt 1)] h1 (fun rv h3 => zri rv (fun v3 => ((v3.toInt = 0 → Q (some (.int (-1000001 : Int32))) h3) ∧ (¬ (v3.toInt = 0) → zqm 121 [.int a2, .int (Int32.ofInt (-1)), .int (Int32.ofInt 1)] h3 (fun rv h5 => zri rv (fun v5 => ((¬ v5.toInt = 0 → zqm 181 [.ref 58, .int a1] h5 (fun rv h7 => zri rv (fun v7 => ((v7.toInt ≤ (2 : Int) → ((0 ≤ a2.toInt → ((v7.toInt ≤ a2.toInt → Q (some (.int (-1000000 : Int32))) h7) ∧ (¬ (v7.toInt ≤ a2.toInt) → (0 ≤ a2.toInt → a2.toInt < 2 → Q (some (.int (h7.1 69 a2.toInt.toNat))) h7)))) ∧ (¬ (0 ≤ a2.toInt) → Q (some (.int v7)) h7))) ∧ (¬ (v7.toInt ≤ (2 : Int)) → Q (some (.int (-1000000 : Int32))) h7))))) ∧ (¬ (¬ v5.toInt = 0) → Q (some (.int (-1000001 : Int32))) h5))))))))) ∧ (¬ (¬ v1.toInt = 0) → Q (some (.int (-1000002 : Int32))) h1))))) : zqm 183 [.ref 58, .int a1, .int a2] h Q := by
  refine zqm_of zp_183 (fun n => ?_)
  show zQ n 183 0 [some (.ref 58), some (.int a1), some (.int a2), none] [] h Q
  refine zQ_seq 1 (pc' := 1) (L' := [some (.ref 58), some (.int a1), some (.int a2), none]) (S' := [.ref 58]) (h' := h) zp_183 rfl ?_
  refine zQ_cvI (M' := 150) (as := [.ref 58]) (S' := []) zp_183 rfl rfl zp_150 (Or.inr rfl) rfl rfl (zqm_imp H (fun rv h1 r1 => zri_imp r1 (fun v1 r1' => ?_)))
  refine zQ_if zp_183 rfl (t := 10) rfl (i := v1.toInt) rfl (fun c2 => ?_) (fun c2 => ?_)
  · refine zQ_seq 3 (pc' := 13) (L' := [some (.ref 58), some (.int a1), some (.int a2), none]) (S' := [.int (Int32.ofInt 1), .int (Int32.ofInt 0), .int a1]) (h' := h1) zp_183 rfl ?_
    refine zQ_csI (M' := 121) (as := [.int a1, .int (Int32.ofInt 0), .int (Int32.ofInt 1)]) (S' := []) zp_183 rfl rfl rfl zp_121 (Or.inr rfl) rfl rfl (zqm_imp (r1'.1 c2) (fun rv h3 r3 => zri_imp r3 (fun v3 r3' => ?_)))
    refine zQ_if zp_183 rfl (t := 28) rfl (i := v3.toInt) rfl (fun c4 => ?_) (fun c4 => ?_)
    · refine zQ_seq 1 (pc' := 30) (L' := [some (.ref 58), some (.int a1), some (.int a2), none]) (S' := [.int (-1000001 : Int32)]) (h' := h3) zp_183 rfl ?_
      exact zQ_retI zp_183 rfl (r3'.1 c4)
    · refine zQ_seq 3 (pc' := 22) (L' := [some (.ref 58), some (.int a1), some (.int a2), none]) (S' := [.int (Int32.ofInt 1), .int (Int32.ofInt (-1)), .int a2]) (h' := h3) zp_183 rfl ?_
      refine zQ_csI (M' := 121) (as := [.int a2, .int (Int32.ofInt (-1)), .int (Int32.ofInt 1)]) (S' := []) zp_183 rfl rfl rfl zp_121 (Or.inr rfl) rfl rfl (zqm_imp (r3'.2 c4) (fun rv h5 r5 => zri_imp r5 (fun v5 r5' => ?_)))
      refine zQ_if zp_183 rfl (t := 31) rfl (i := v5.toInt) rfl (fun c6 => ?_) (fun c6 => ?_)
      · refine zQ_seq 2 (pc' := 33) (L' := [some (.ref 58), some (.int a1), some (.int a2), none]) (S' := [.int a1, .ref 58]) (h' := h5) zp_183 rfl ?_
        refine zQ_cvI (M' := 181) (as := [.ref 58, .int a1]) (S' := []) zp_183 rfl rfl zp_181 (Or.inl rfl) rfl rfl (zqm_imp (r5'.1 c6) (fun rv h7 r7 => zri_imp r7 (fun v7 r7' => ?_)))
        refine zQ_seq 3 (pc' := 39) (L' := [some (.ref 58), some (.int a1), some (.int a2), some (.int v7)]) (S' := [.int (Int32.ofInt 2), .int v7]) (h' := h7) zp_183 rfl ?_
        refine zQ_ic zp_183 rfl (t := 45) rfl (i := v7.toInt) (j := (2 : Int)) rfl kc_2 (fun c8 => ?_) (fun c8 => ?_)
        · refine zQ_seq 1 (pc' := 46) (L' := [some (.ref 58), some (.int a1), some (.int a2), some (.int v7)]) (S' := [.int a2]) (h' := h7) zp_183 rfl ?_
          refine zQ_if zp_183 rfl (t := 53) rfl (i := a2.toInt) rfl (fun c9 => ?_) (fun c9 => ?_)
          · refine zQ_seq 2 (pc' := 55) (L' := [some (.ref 58), some (.int a1), some (.int a2), some (.int v7)]) (S' := [.int v7, .int a2]) (h' := h7) zp_183 rfl ?_
            refine zQ_ic zp_183 rfl (t := 67) rfl (i := a2.toInt) (j := v7.toInt) rfl rfl (fun c10 => ?_) (fun c10 => ?_)
            · refine zQ_seq 1 (pc' := 69) (L' := [some (.ref 58), some (.int a1), some (.int a2), some (.int v7)]) (S' := [.int (-1000000 : Int32)]) (h' := h7) zp_183 rfl ?_
              exact zQ_retI zp_183 rfl (((r7'.1 c8).1 c9).1 c10)
            · refine zQ_seq 3 (pc' := 63) (L' := [some (.ref 58), some (.int a1), some (.int a2), some (.int v7)]) (S' := [.int a2, .ref 69]) (h' := h7) zp_183 rfl ?_
              refine zQ_ial (N := 2) (f := h7.1 69) zp_183 rfl rfl rfl (fun b11 b11' => ?_)
              refine zQ_goto zp_183 rfl (t := 69) rfl ?_
              exact zQ_retI zp_183 rfl ((((r7'.1 c8).1 c9).2 c10) b11 b11')
          · refine zQ_seq 1 (pc' := 50) (L' := [some (.ref 58), some (.int a1), some (.int a2), some (.int v7)]) (S' := [.int v7]) (h' := h7) zp_183 rfl ?_
            refine zQ_goto zp_183 rfl (t := 69) rfl ?_
            exact zQ_retI zp_183 rfl ((r7'.1 c8).2 c9)
        · refine zQ_seq 1 (pc' := 44) (L' := [some (.ref 58), some (.int a1), some (.int a2), some (.int v7)]) (S' := [.int (-1000000 : Int32)]) (h' := h7) zp_183 rfl ?_
          exact zQ_retI zp_183 rfl (r7'.2 c8)
      · refine zQ_seq 1 (pc' := 30) (L' := [some (.ref 58), some (.int a1), some (.int a2), none]) (S' := [.int (-1000001 : Int32)]) (h' := h5) zp_183 rfl ?_
        exact zQ_retI zp_183 rfl (r5'.2 c6)
  · refine zQ_seq 1 (pc' := 9) (L' := [some (.ref 58), some (.int a1), some (.int a2), none]) (S' := [.int (-1000002 : Int32)]) (h' := h1) zp_183 rfl ?_
    exact zQ_retI zp_183 rfl (r1'.2 c2)
theorem s_184 {h : zH} {Q : Option Value → zH → Prop} (H : (∀ n, zqm 150 [.ref 58] h (fun rv h1 => zri rv (fun v1 => ((¬ v1.toInt = 0 → zQ n 184 14 [some (.ref 58), some (.int (Int32.ofInt 0)), some (.int (Int32.ofInt 0))] [] h1 Q) ∧ (¬ (¬ v1.toInt = 0) → Q (some (.int (-1000002 : Int32))) h1)))))) : zqm 184 [.ref 58] h Q := by
  refine zqm_of zp_184 (fun n => ?_)
  have H := H n
  show zQ n 184 0 [some (.ref 58), none, none] [] h Q
  refine zQ_seq 1 (pc' := 1) (L' := [some (.ref 58), none, none]) (S' := [.ref 58]) (h' := h) zp_184 rfl ?_
  refine zQ_cvI (M' := 150) (as := [.ref 58]) (S' := []) zp_184 rfl rfl zp_150 (Or.inr rfl) rfl rfl (zqm_imp H (fun rv h1 r1 => zri_imp r1 (fun v1 r1' => ?_)))
  refine zQ_if zp_184 rfl (t := 10) rfl (i := v1.toInt) rfl (fun c2 => ?_) (fun c2 => ?_)
  · refine zQ_seq 4 (pc' := 14) (L' := [some (.ref 58), some (.int (Int32.ofInt 0)), some (.int (Int32.ofInt 0))]) (S' := []) (h' := h1) zp_184 rfl ?_
    exact (r1'.1 c2)
  · refine zQ_seq 1 (pc' := 9) (L' := [some (.ref 58), none, none]) (S' := [.int (-1000002 : Int32)]) (h' := h1) zp_184 rfl ?_
    exact zQ_retI zp_184 rfl (r1'.2 c2)
theorem s_184_14 {n : Nat} {h : zH} {Q : Option Value → zH → Prop} (x1 : Int32) (x2 : Int32) (H : (((15 : Int) ≤ x2.toInt → zqm 156 [.ref 58, .ref 64] h (fun rv h2 => zri rv (fun v2 => Q (some (.int (x1 &&& v2))) h2))) ∧ (¬ ((15 : Int) ≤ x2.toInt) → zqm 166 [.ref 58, .int ((Int32.ofInt 1) <<< (x2 &&& 31))] h (fun rv h3 => zri rv (fun v3 => ((¬ v3.toInt = 0 → zQ n 184 14 [some (.ref 58), some (.int (x1 ||| (Int32.ofInt 0))), some (.int (x2 + Int32.ofInt 1))] [] h3 Q) ∧ (¬ (¬ v3.toInt = 0) → zQ n 184 14 [some (.ref 58), some (.int (x1 ||| ((Int32.ofInt 1) <<< (x2 &&& 31)))), some (.int (x2 + Int32.ofInt 1))] [] h3 Q))))))) : zQ (n + 1) 184 14 [some (.ref 58), some (.int x1), some (.int x2)] [] h Q := by
  refine zQ_seqL 1 (pc' := 17) (L' := [some (.ref 58), some (.int x1), some (.int x2)]) (S' := [.int (Int32.ofInt 15), .int x2]) (h' := h) zp_184 rfl ?_
  refine zQ_ic zp_184 rfl (t := 46) rfl (i := x2.toInt) (j := (15 : Int)) rfl kc_15 (fun c1 => ?_) (fun c1 => ?_)
  · refine zQ_seq 4 (pc' := 52) (L' := [some (.ref 58), some (.int x1), some (.int x2)]) (S' := [.ref 64, .ref 58, .int x1]) (h' := h) zp_184 rfl ?_
    refine zQ_cvI (M' := 156) (as := [.ref 58, .ref 64]) (S' := [.int x1]) zp_184 rfl rfl zp_156 (Or.inl rfl) rfl rfl (zqm_imp (H.1 c1) (fun rv h2 r2 => zri_imp r2 (fun v2 r2' => ?_)))
    refine zQ_seq 1 (pc' := 56) (L' := [some (.ref 58), some (.int x1), some (.int x2)]) (S' := [.int (x1 &&& v2)]) (h' := h2) zp_184 rfl ?_
    exact zQ_retI zp_184 rfl r2'
  · refine zQ_seq 5 (pc' := 25) (L' := [some (.ref 58), some (.int x1), some (.int x2)]) (S' := [.int ((Int32.ofInt 1) <<< (x2 &&& 31)), .ref 58, .int x1]) (h' := h) zp_184 rfl ?_
    refine zQ_cvI (M' := 166) (as := [.ref 58, .int ((Int32.ofInt 1) <<< (x2 &&& 31))]) (S' := [.int x1]) zp_184 rfl rfl zp_166 (Or.inl rfl) rfl rfl (zqm_imp (H.2 c1) (fun rv h3 r3 => zri_imp r3 (fun v3 r3' => ?_)))
    refine zQ_if zp_184 rfl (t := 37) rfl (i := v3.toInt) rfl (fun c4 => ?_) (fun c4 => ?_)
    · refine zQ_seq 4 (pc' := 43) (L' := [some (.ref 58), some (.int (x1 ||| (Int32.ofInt 0))), some (.int (x2 + Int32.ofInt 1))]) (S' := []) (h' := h3) zp_184 rfl ?_
      refine zQ_goto zp_184 rfl (t := 14) rfl ?_
      exact (r3'.1 c4)
    · refine zQ_seq 3 (pc' := 34) (L' := [some (.ref 58), some (.int x1), some (.int x2)]) (S' := [.int ((Int32.ofInt 1) <<< (x2 &&& 31)), .int x1]) (h' := h3) zp_184 rfl ?_
      refine zQ_goto zp_184 rfl (t := 38) rfl ?_
      refine zQ_seq 3 (pc' := 43) (L' := [some (.ref 58), some (.int (x1 ||| ((Int32.ofInt 1) <<< (x2 &&& 31)))), some (.int (x2 + Int32.ofInt 1))]) (S' := []) (h' := h3) zp_184 rfl ?_
      refine zQ_goto zp_184 rfl (t := 14) rfl ?_
      exact (r3'.2 c4)
theorem s_185 {h : zH} {Q : Option Value → zH → Prop} (a1 : Int32) (H : (∀ n, zQ n 185 4 [some (.ref 58), some (.int a1), some (.int (Int32.ofInt 1)), some (.int (Int32.ofInt 0))] [] h Q)) : zqm 185 [.ref 58, .int a1] h Q := by
  refine zqm_of zp_185 (fun n => ?_)
  have H := H n
  show zQ n 185 0 [some (.ref 58), some (.int a1), none, none] [] h Q
  refine zQ_seq 4 (pc' := 4) (L' := [some (.ref 58), some (.int a1), some (.int (Int32.ofInt 1)), some (.int (Int32.ofInt 0))]) (S' := []) (h' := h) zp_185 rfl ?_
  exact H
theorem s_185_4 {n : Nat} {h : zH} {Q : Option Value → zH → Prop} (x1 : Int32) (x2 : Int32) (x3 : Int32) (H : (((h.1 64 57).toInt ≤ x3.toInt → Q (some (.int x2)) h) ∧ (¬ ((h.1 64 57).toInt ≤ x3.toInt) → ((x2.toInt = 0 → zQ n 185 4 [some (.ref 58), some (.int x1), some (.int (Int32.ofInt 0)), some (.int (x3 + Int32.ofInt 1))] [] h Q) ∧ (¬ (x2.toInt = 0) → zqm 164 [.ref 58, .int x3, .int x1] h (fun rv h3 => zri rv (fun v3 => (0 ≤ ((h3.1 58 18) + x3).toInt → ((h3.1 58 18) + x3).toInt < 320 → ((¬ v3.toInt = (h3.1 61 ((h3.1 58 18) + x3).toInt.toNat).toInt → zQ n 185 4 [some (.ref 58), some (.int x1), some (.int (Int32.ofInt 0)), some (.int (x3 + Int32.ofInt 1))] [] h3 Q) ∧ (¬ (¬ v3.toInt = (h3.1 61 ((h3.1 58 18) + x3).toInt.toNat).toInt) → zQ n 185 4 [some (.ref 58), some (.int x1), some (.int (Int32.ofInt 1)), some (.int (x3 + Int32.ofInt 1))] [] h3 Q)))))))))) : zQ (n + 1) 185 4 [some (.ref 58), some (.int x1), some (.int x2), some (.int x3)] [] h Q := by
  refine zQ_seqL 3 (pc' := 11) (L' := [some (.ref 58), some (.int x1), some (.int x2), some (.int x3)]) (S' := [.int (Int32.ofInt 57), .ref 64, .int x3]) (h' := h) zp_185 rfl ?_
  refine zQ_ialk 57 (N := 62) (f := h.1 64) zp_185 rfl rfl kc_57 ?_
  refine zQ_ic zp_185 rfl (t := 51) rfl (i := x3.toInt) (j := (h.1 64 57).toInt) rfl rfl (fun c1 => ?_) (fun c1 => ?_)
  · refine zQ_seq 1 (pc' := 52) (L' := [some (.ref 58), some (.int x1), some (.int x2), some (.int x3)]) (S' := [.int x2]) (h' := h) zp_185 rfl ?_
    exact zQ_retI zp_185 rfl (H.1 c1)
  · refine zQ_seq 1 (pc' := 16) (L' := [some (.ref 58), some (.int x1), some (.int x2), some (.int x3)]) (S' := [.int x2]) (h' := h) zp_185 rfl ?_
    refine zQ_if zp_185 rfl (t := 43) rfl (i := x2.toInt) rfl (fun c2 => ?_) (fun c2 => ?_)
    · refine zQ_seq 3 (pc' := 48) (L' := [some (.ref 58), some (.int x1), some (.int (Int32.ofInt 0)), some (.int (x3 + Int32.ofInt 1))]) (S' := []) (h' := h) zp_185 rfl ?_
      refine zQ_goto zp_185 rfl (t := 4) rfl ?_
      exact ((H.2 c1).1 c2)
    · refine zQ_seq 3 (pc' := 22) (L' := [some (.ref 58), some (.int x1), some (.int x2), some (.int x3)]) (S' := [.int x1, .int x3, .ref 58]) (h' := h) zp_185 rfl ?_
      refine zQ_cvI (M' := 164) (as := [.ref 58, .int x3, .int x1]) (S' := []) zp_185 rfl rfl zp_164 (Or.inl rfl) rfl rfl (zqm_imp ((H.2 c1).2 c2) (fun rv h3 r3 => zri_imp r3 (fun v3 r3' => ?_)))
      refine zQ_seq 6 (pc' := 35) (L' := [some (.ref 58), some (.int x1), some (.int x2), some (.int x3)]) (S' := [.int ((h3.1 58 18) + x3), .ref 61, .int v3]) (h' := h3) zp_185 rfl ?_
      refine zQ_ial (N := 320) (f := h3.1 61) zp_185 rfl rfl rfl (fun b4 b4' => ?_)
      refine zQ_ic zp_185 rfl (t := 43) rfl (i := v3.toInt) (j := (h3.1 61 ((h3.1 58 18) + x3).toInt.toNat).toInt) rfl rfl (fun c5 => ?_) (fun c5 => ?_)
      · refine zQ_seq 3 (pc' := 48) (L' := [some (.ref 58), some (.int x1), some (.int (Int32.ofInt 0)), some (.int (x3 + Int32.ofInt 1))]) (S' := []) (h' := h3) zp_185 rfl ?_
        refine zQ_goto zp_185 rfl (t := 4) rfl ?_
        exact ((r3' b4 b4').1 c5)
      · refine zQ_seq 1 (pc' := 40) (L' := [some (.ref 58), some (.int x1), some (.int x2), some (.int x3)]) (S' := [.int (Int32.ofInt 1)]) (h' := h3) zp_185 rfl ?_
        refine zQ_goto zp_185 rfl (t := 44) rfl ?_
        refine zQ_seq 2 (pc' := 48) (L' := [some (.ref 58), some (.int x1), some (.int (Int32.ofInt 1)), some (.int (x3 + Int32.ofInt 1))]) (S' := []) (h' := h3) zp_185 rfl ?_
        refine zQ_goto zp_185 rfl (t := 4) rfl ?_
        exact ((r3' b4 b4').2 c5)
theorem s_186 {h : zH} {Q : Option Value → zH → Prop} (a1 : Int32) (a2 : Int32) (a3 : Int32) (a4 : Int32) (H : zqm 128 [.int a1] h (fun rv h1 => zri rv (fun v1 => ((v1.toInt = 0 → Q (some (.int (-1000001 : Int32))) h1) ∧ (¬ (v1.toInt = 0) → ((¬ a3.toInt = 0 → zqm 129 [.ref 58, .int a1] h1 (fun rv h4 => zri rv (fun v4 => ((v4.toInt = 0 → zqm 132 [.ref 58, .int a1, .int a2, .int a4] h4 (fun rv h6 => zri rv (fun v6 => ((¬ v6.toInt = 0 → zqm 126 [.ref 58, .int (Int32.ofInt 0)] (zSet h6 58 18 (((Int32.ofInt 40) * a1) + a2)) (fun rv h8 => zri rv (fun v8 => Q (some (.int v8)) h8))) ∧ (¬ (¬ v6.toInt = 0) → zqm 125 [.ref 58, .int (Int32.ofInt 2)] h6 (fun rv h9 => zri rv (fun v9 => Q (some (.int v9)) h9))))))) ∧ (¬ (v4.toInt = 0) → zqm 125 [.ref 58, .int (Int32.ofInt 1)] h4 (fun rv h10 => zri rv (fun v10 => Q (some (.int v10)) h10))))))) ∧ (¬ (¬ a3.toInt = 0) → Q (some (.int (-1000001 : Int32))) h1))))))) : zqm 186 [.ref 58, .int a1, .int a2, .int a3, .int a4] h Q := by
  refine zqm_of zp_186 (fun n => ?_)
  show zQ n 186 0 [some (.ref 58), some (.int a1), some (.int a2), some (.int a3), some (.int a4)] [] h Q
  refine zQ_seq 1 (pc' := 1) (L' := [some (.ref 58), some (.int a1), some (.int a2), some (.int a3), some (.int a4)]) (S' := [.int a1]) (h' := h) zp_186 rfl ?_
  refine zQ_csI (M' := 128) (as := [.int a1]) (S' := []) zp_186 rfl rfl rfl zp_128 (Or.inr rfl) rfl rfl (zqm_imp H (fun rv h1 r1 => zri_imp r1 (fun v1 r1' => ?_)))
  refine zQ_if zp_186 rfl (t := 11) rfl (i := v1.toInt) rfl (fun c2 => ?_) (fun c2 => ?_)
  · refine zQ_seq 1 (pc' := 13) (L' := [some (.ref 58), some (.int a1), some (.int a2), some (.int a3), some (.int a4)]) (S' := [.int (-1000001 : Int32)]) (h' := h1) zp_186 rfl ?_
    exact zQ_retI zp_186 rfl (r1'.1 c2)
  · refine zQ_seq 1 (pc' := 8) (L' := [some (.ref 58), some (.int a1), some (.int a2), some (.int a3), some (.int a4)]) (S' := [.int a3]) (h' := h1) zp_186 rfl ?_
    refine zQ_if zp_186 rfl (t := 14) rfl (i := a3.toInt) rfl (fun c3 => ?_) (fun c3 => ?_)
    · refine zQ_seq 2 (pc' := 16) (L' := [some (.ref 58), some (.int a1), some (.int a2), some (.int a3), some (.int a4)]) (S' := [.int a1, .ref 58]) (h' := h1) zp_186 rfl ?_
      refine zQ_cvI (M' := 129) (as := [.ref 58, .int a1]) (S' := []) zp_186 rfl rfl zp_129 (Or.inr rfl) rfl rfl (zqm_imp ((r1'.2 c2).1 c3) (fun rv h4 r4 => zri_imp r4 (fun v4 r4' => ?_)))
      refine zQ_if zp_186 rfl (t := 28) rfl (i := v4.toInt) rfl (fun c5 => ?_) (fun c5 => ?_)
      · refine zQ_seq 4 (pc' := 33) (L' := [some (.ref 58), some (.int a1), some (.int a2), some (.int a3), some (.int a4)]) (S' := [.int a4, .int a2, .int a1, .ref 58]) (h' := h4) zp_186 rfl ?_
        refine zQ_cvI (M' := 132) (as := [.ref 58, .int a1, .int a2, .int a4]) (S' := []) zp_186 rfl rfl zp_132 (Or.inr rfl) rfl rfl (zqm_imp (r4'.1 c5) (fun rv h6 r6 => zri_imp r6 (fun v6 r6' => ?_)))
        refine zQ_if zp_186 rfl (t := 45) rfl (i := v6.toInt) rfl (fun c7 => ?_) (fun c7 => ?_)
        · refine zQ_seq 9 (pc' := 57) (L' := [some (.ref 58), some (.int a1), some (.int a2), some (.int a3), some (.int a4)]) (S' := [.int (Int32.ofInt 0), .ref 58]) (h' := (zSet h6 58 18 (((Int32.ofInt 40) * a1) + a2))) zp_186 rfl ?_
          refine zQ_cvI (M' := 126) (as := [.ref 58, .int (Int32.ofInt 0)]) (S' := []) zp_186 rfl rfl zp_126 (Or.inl rfl) rfl rfl (zqm_imp (r6'.1 c7) (fun rv h8 r8 => zri_imp r8 (fun v8 r8' => ?_)))
          exact zQ_retI zp_186 rfl r8'
        · refine zQ_seq 2 (pc' := 41) (L' := [some (.ref 58), some (.int a1), some (.int a2), some (.int a3), some (.int a4)]) (S' := [.int (Int32.ofInt 2), .ref 58]) (h' := h6) zp_186 rfl ?_
          refine zQ_cvI (M' := 125) (as := [.ref 58, .int (Int32.ofInt 2)]) (S' := []) zp_186 rfl rfl zp_125 (Or.inl rfl) rfl rfl (zqm_imp (r6'.2 c7) (fun rv h9 r9 => zri_imp r9 (fun v9 r9' => ?_)))
          exact zQ_retI zp_186 rfl r9'
      · refine zQ_seq 2 (pc' := 24) (L' := [some (.ref 58), some (.int a1), some (.int a2), some (.int a3), some (.int a4)]) (S' := [.int (Int32.ofInt 1), .ref 58]) (h' := h4) zp_186 rfl ?_
        refine zQ_cvI (M' := 125) (as := [.ref 58, .int (Int32.ofInt 1)]) (S' := []) zp_186 rfl rfl zp_125 (Or.inl rfl) rfl rfl (zqm_imp (r4'.2 c5) (fun rv h10 r10 => zri_imp r10 (fun v10 r10' => ?_)))
        exact zQ_retI zp_186 rfl r10'
    · refine zQ_seq 1 (pc' := 13) (L' := [some (.ref 58), some (.int a1), some (.int a2), some (.int a3), some (.int a4)]) (S' := [.int (-1000001 : Int32)]) (h' := h1) zp_186 rfl ?_
      exact zQ_retI zp_186 rfl ((r1'.2 c2).2 c3)
theorem s_187 {h : zH} {Q : Option Value → zH → Prop} (a1 : Int32) (a2 : Int32) (H : (∀ n, zqm 150 [.ref 58] h (fun rv h1 => zri rv (fun v1 => ((¬ v1.toInt = 0 → zqm 186 [.ref 58, .int a1, .int a2, .int (Int32.ofInt 1), .int (h1.1 64 57)] h1 (fun rv h3 => zri rv (fun v3 => ((0 ≤ v3.toInt → zQ n 187 37 [some (.ref 58), some (.int a1), some (.int a2), some (.int v3), some (.int (Int32.ofInt 0)), some (.int (Int32.ofInt 0))] [] h3 Q) ∧ (¬ (0 ≤ v3.toInt) → Q (some (.int v3)) h3))))) ∧ (¬ (¬ v1.toInt = 0) → Q (some (.int (-1000002 : Int32))) h1)))))) : zqm 187 [.ref 58, .int a1, .int a2] h Q := by
  refine zqm_of zp_187 (fun n => ?_)
  have H := H n
  show zQ n 187 0 [some (.ref 58), some (.int a1), some (.int a2), none, none, none] [] h Q
  refine zQ_seq 1 (pc' := 1) (L' := [some (.ref 58), some (.int a1), some (.int a2), none, none, none]) (S' := [.ref 58]) (h' := h) zp_187 rfl ?_
  refine zQ_cvI (M' := 150) (as := [.ref 58]) (S' := []) zp_187 rfl rfl zp_150 (Or.inr rfl) rfl rfl (zqm_imp H (fun rv h1 r1 => zri_imp r1 (fun v1 r1' => ?_)))
  refine zQ_if zp_187 rfl (t := 10) rfl (i := v1.toInt) rfl (fun c2 => ?_) (fun c2 => ?_)
  · refine zQ_seq 7 (pc' := 20) (L' := [some (.ref 58), some (.int a1), some (.int a2), none, none, none]) (S' := [.int (Int32.ofInt 57), .ref 64, .int (Int32.ofInt 1), .int a2, .int a1, .ref 58]) (h' := h1) zp_187 rfl ?_
    refine zQ_ialk 57 (N := 62) (f := h1.1 64) zp_187 rfl rfl kc_57 ?_
    refine zQ_cvI (M' := 186) (as := [.ref 58, .int a1, .int a2, .int (Int32.ofInt 1), .int (h1.1 64 57)]) (S' := []) zp_187 rfl rfl zp_186 (Or.inl rfl) rfl rfl (zqm_imp (r1'.1 c2) (fun rv h3 r3 => zri_imp r3 (fun v3 r3' => ?_)))
    refine zQ_seq 2 (pc' := 26) (L' := [some (.ref 58), some (.int a1), some (.int a2), some (.int v3), none, none]) (S' := [.int v3]) (h' := h3) zp_187 rfl ?_
    refine zQ_if zp_187 rfl (t := 31) rfl (i := v3.toInt) rfl (fun c4 => ?_) (fun c4 => ?_)
    · refine zQ_seq 4 (pc' := 37) (L' := [some (.ref 58), some (.int a1), some (.int a2), some (.int v3), some (.int (Int32.ofInt 0)), some (.int (Int32.ofInt 0))]) (S' := []) (h' := h3) zp_187 rfl ?_
      exact (r3'.1 c4)
    · refine zQ_seq 1 (pc' := 30) (L' := [some (.ref 58), some (.int a1), some (.int a2), some (.int v3), none, none]) (S' := [.int v3]) (h' := h3) zp_187 rfl ?_
      exact zQ_retI zp_187 rfl (r3'.2 c4)
  · refine zQ_seq 1 (pc' := 9) (L' := [some (.ref 58), some (.int a1), some (.int a2), none, none, none]) (S' := [.int (-1000002 : Int32)]) (h' := h1) zp_187 rfl ?_
    exact zQ_retI zp_187 rfl (r1'.2 c2)
theorem s_187_37 {n : Nat} {h : zH} {Q : Option Value → zH → Prop} (x1 : Int32) (x2 : Int32) (x3 : Int32) (x4 : Int32) (x5 : Int32) (H : (((15 : Int) ≤ x5.toInt → Q (some (.int x4)) h) ∧ (¬ ((15 : Int) ≤ x5.toInt) → zqm 185 [.ref 58, .int ((Int32.ofInt 1) <<< (x5 &&& 31))] h (fun rv h2 => zri rv (fun v2 => ((v2.toInt = 0 → zQ n 187 37 [some (.ref 58), some (.int x1), some (.int x2), some (.int x3), some (.int (x4 ||| (Int32.ofInt 0))), some (.int (x5 + Int32.ofInt 1))] [] h2 Q) ∧ (¬ (v2.toInt = 0) → zQ n 187 37 [some (.ref 58), some (.int x1), some (.int x2), some (.int x3), some (.int (x4 ||| ((Int32.ofInt 1) <<< (x5 &&& 31)))), some (.int (x5 + Int32.ofInt 1))] [] h2 Q))))))) : zQ (n + 1) 187 37 [some (.ref 58), some (.int x1), some (.int x2), some (.int x3), some (.int x4), some (.int x5)] [] h Q := by
  refine zQ_seqL 1 (pc' := 41) (L' := [some (.ref 58), some (.int x1), some (.int x2), some (.int x3), some (.int x4), some (.int x5)]) (S' := [.int (Int32.ofInt 15), .int x5]) (h' := h) zp_187 rfl ?_
  refine zQ_ic zp_187 rfl (t := 74) rfl (i := x5.toInt) (j := (15 : Int)) rfl kc_15 (fun c1 => ?_) (fun c1 => ?_)
  · refine zQ_seq 1 (pc' := 76) (L' := [some (.ref 58), some (.int x1), some (.int x2), some (.int x3), some (.int x4), some (.int x5)]) (S' := [.int x4]) (h' := h) zp_187 rfl ?_
    exact zQ_retI zp_187 rfl (H.1 c1)
  · refine zQ_seq 5 (pc' := 51) (L' := [some (.ref 58), some (.int x1), some (.int x2), some (.int x3), some (.int x4), some (.int x5)]) (S' := [.int ((Int32.ofInt 1) <<< (x5 &&& 31)), .ref 58, .int x4]) (h' := h) zp_187 rfl ?_
    refine zQ_cvI (M' := 185) (as := [.ref 58, .int ((Int32.ofInt 1) <<< (x5 &&& 31))]) (S' := [.int x4]) zp_187 rfl rfl zp_185 (Or.inr rfl) rfl rfl (zqm_imp (H.2 c1) (fun rv h2 r2 => zri_imp r2 (fun v2 r2' => ?_)))
    refine zQ_if zp_187 rfl (t := 64) rfl (i := v2.toInt) rfl (fun c3 => ?_) (fun c3 => ?_)
    · refine zQ_seq 4 (pc' := 71) (L' := [some (.ref 58), some (.int x1), some (.int x2), some (.int x3), some (.int (x4 ||| (Int32.ofInt 0))), some (.int (x5 + Int32.ofInt 1))]) (S' := []) (h' := h2) zp_187 rfl ?_
      refine zQ_goto zp_187 rfl (t := 37) rfl ?_
      exact (r2'.1 c3)
    · refine zQ_seq 3 (pc' := 61) (L' := [some (.ref 58), some (.int x1), some (.int x2), some (.int x3), some (.int x4), some (.int x5)]) (S' := [.int ((Int32.ofInt 1) <<< (x5 &&& 31)), .int x4]) (h' := h2) zp_187 rfl ?_
      refine zQ_goto zp_187 rfl (t := 65) rfl ?_
      refine zQ_seq 3 (pc' := 71) (L' := [some (.ref 58), some (.int x1), some (.int x2), some (.int x3), some (.int (x4 ||| ((Int32.ofInt 1) <<< (x5 &&& 31)))), some (.int (x5 + Int32.ofInt 1))]) (S' := []) (h' := h2) zp_187 rfl ?_
      refine zQ_goto zp_187 rfl (t := 37) rfl ?_
      exact (r2'.2 c3)
theorem s_188 {h : zH} {Q : Option Value → zH → Prop} (H : (∀ n, zQ n 188 13 [some (.ref 58), some (.int (Int32.ofInt 0)), none] [] (zSet (zSet h 58 19 (Int32.ofInt 0)) 58 20 (-1000000 : Int32)) Q)) : zqm 188 [.ref 58] h Q := by
  refine zqm_of zp_188 (fun n => ?_)
  have H := H n
  show zQ n 188 0 [some (.ref 58), none, none] [] h Q
  refine zQ_seq 8 (pc' := 13) (L' := [some (.ref 58), some (.int (Int32.ofInt 0)), none]) (S' := []) (h' := (zSet (zSet h 58 19 (Int32.ofInt 0)) 58 20 (-1000000 : Int32))) zp_188 rfl ?_
  exact H
theorem s_188_13 {n : Nat} {h : zH} {Q : Option Value → zH → Prop} (x1 : Int32) (H : (((15 : Int) ≤ x1.toInt → zQ n 188 34 [some (.ref 58), some (.int (Int32.ofInt 0)), none] [] h Q) ∧ (¬ ((15 : Int) ≤ x1.toInt) → (0 ≤ x1.toInt → x1.toInt < 15 → zQ n 188 13 [some (.ref 58), some (.int (x1 + Int32.ofInt 1)), none] [] (zSet h 70 x1.toInt.toNat (Int32.ofInt 0)) Q)))) : zQ (n + 1) 188 13 [some (.ref 58), some (.int x1), none] [] h Q := by
  refine zQ_seqL 1 (pc' := 16) (L' := [some (.ref 58), some (.int x1), none]) (S' := [.int (Int32.ofInt 15), .int x1]) (h' := h) zp_188 rfl ?_
  refine zQ_ic zp_188 rfl (t := 32) rfl (i := x1.toInt) (j := (15 : Int)) rfl kc_15 (fun c1 => ?_) (fun c1 => ?_)
  · refine zQ_seq 2 (pc' := 34) (L' := [some (.ref 58), some (.int (Int32.ofInt 0)), none]) (S' := []) (h' := h) zp_188 rfl ?_
    exact (H.1 c1)
  · refine zQ_seq 4 (pc' := 25) (L' := [some (.ref 58), some (.int x1), none]) (S' := [.int (Int32.ofInt 0), .int x1, .ref 70]) (h' := h) zp_188 rfl ?_
    refine zQ_ias (N := 15) zp_188 rfl rfl rfl (fun b2 b2' => ?_)
    refine zQ_seq 1 (pc' := 29) (L' := [some (.ref 58), some (.int (x1 + Int32.ofInt 1)), none]) (S' := []) (h' := (zSet h 70 x1.toInt.toNat (Int32.ofInt 0))) zp_188 rfl ?_
    refine zQ_goto zp_188 rfl (t := 13) rfl ?_
    exact ((H.2 c1) b2 b2')
theorem s_188_34 {n : Nat} {h : zH} {Q : Option Value → zH → Prop} (x1 : Int32) (o2 : Option Value) (H : (((32768 : Int) ≤ x1.toInt → Q none h) ∧ (¬ ((32768 : Int) ≤ x1.toInt) → zqm 123 [.int x1] h (fun rv h2 => zri rv (fun v2 => (((3 : Int) ≤ v2.toInt → zQ n 188 34 [some (.ref 58), some (.int (x1 + Int32.ofInt 1)), o2] [] h2 Q) ∧ (¬ ((3 : Int) ≤ v2.toInt) → zqm 185 [.ref 58, .int x1] h2 (fun rv h4 => zri rv (fun v4 => ((v4.toInt = 0 → zQ n 188 34 [some (.ref 58), some (.int (x1 + Int32.ofInt 1)), o2] [] h4 Q) ∧ (¬ (v4.toInt = 0) → (((h4.1 58 20).toInt = (-1000000 : Int) → zQ n 188 103 [some (.ref 58), some (.int x1), some (.int (Int32.ofInt 0))] [] (zSet (zSet h4 58 19 ((h4.1 58 19) + (Int32.ofInt 1))) 58 20 x1) Q) ∧ (¬ ((h4.1 58 20).toInt = (-1000000 : Int)) → zqm 123 [.int x1] (zSet h4 58 19 ((h4.1 58 19) + (Int32.ofInt 1))) (fun rv h7 => zri rv (fun v7 => zqm 123 [.int (h7.1 58 20)] h7 (fun rv h8 => zri rv (fun v8 => ((v8.toInt ≤ v7.toInt → zQ n 188 103 [some (.ref 58), some (.int x1), some (.int (Int32.ofInt 0))] [] (zSet h8 58 20 (h8.1 58 20)) Q) ∧ (¬ (v8.toInt ≤ v7.toInt) → zQ n 188 103 [some (.ref 58), some (.int x1), some (.int (Int32.ofInt 0))] [] (zSet h8 58 20 x1) Q))))))))))))))))))) : zQ (n + 1) 188 34 [some (.ref 58), some (.int x1), o2] [] h Q := by
  refine zQ_seqL 1 (pc' := 37) (L' := [some (.ref 58), some (.int x1), o2]) (S' := [.int (32768 : Int32), .int x1]) (h' := h) zp_188 rfl ?_
  refine zQ_ic zp_188 rfl (t := 143) rfl (i := x1.toInt) (j := (32768 : Int)) rfl kd_32768 (fun c1 => ?_) (fun c1 => ?_)
  · exact zQ_retV zp_188 rfl (H.1 c1)
  · refine zQ_seq 1 (pc' := 41) (L' := [some (.ref 58), some (.int x1), o2]) (S' := [.int x1]) (h' := h) zp_188 rfl ?_
    refine zQ_csI (M' := 123) (as := [.int x1]) (S' := []) zp_188 rfl rfl rfl zp_123 (Or.inl rfl) rfl rfl (zqm_imp (H.2 c1) (fun rv h2 r2 => zri_imp r2 (fun v2 r2' => ?_)))
    refine zQ_seq 1 (pc' := 45) (L' := [some (.ref 58), some (.int x1), o2]) (S' := [.int (Int32.ofInt 3), .int v2]) (h' := h2) zp_188 rfl ?_
    refine zQ_ic zp_188 rfl (t := 137) rfl (i := v2.toInt) (j := (3 : Int)) rfl kc_3 (fun c3 => ?_) (fun c3 => ?_)
    · refine zQ_seq 1 (pc' := 140) (L' := [some (.ref 58), some (.int (x1 + Int32.ofInt 1)), o2]) (S' := []) (h' := h2) zp_188 rfl ?_
      refine zQ_goto zp_188 rfl (t := 34) rfl ?_
      exact (r2'.1 c3)
    · refine zQ_seq 2 (pc' := 50) (L' := [some (.ref 58), some (.int x1), o2]) (S' := [.int x1, .ref 58]) (h' := h2) zp_188 rfl ?_
      refine zQ_cvI (M' := 185) (as := [.ref 58, .int x1]) (S' := []) zp_188 rfl rfl zp_185 (Or.inr rfl) rfl rfl (zqm_imp (r2'.2 c3) (fun rv h4 r4 => zri_imp r4 (fun v4 r4' => ?_)))
      refine zQ_if zp_188 rfl (t := 137) rfl (i := v4.toInt) rfl (fun c5 => ?_) (fun c5 => ?_)
      · refine zQ_seq 1 (pc' := 140) (L' := [some (.ref 58), some (.int (x1 + Int32.ofInt 1)), o2]) (S' := []) (h' := h4) zp_188 rfl ?_
        refine zQ_goto zp_188 rfl (t := 34) rfl ?_
        exact (r4'.1 c5)
      · refine zQ_seq 10 (pc' := 73) (L' := [some (.ref 58), some (.int x1), o2]) (S' := [.int (-1000000 : Int32), .int (h4.1 58 20), .ref 58]) (h' := (zSet h4 58 19 ((h4.1 58 19) + (Int32.ofInt 1)))) zp_188 rfl ?_
        refine zQ_ic zp_188 rfl (t := 90) rfl (i := (h4.1 58 20).toInt) (j := (-1000000 : Int)) rfl kdm1000000 (fun c6 => ?_) (fun c6 => ?_)
        · refine zQ_seq 1 (pc' := 91) (L' := [some (.ref 58), some (.int x1), o2]) (S' := [.int x1, .ref 58]) (h' := (zSet h4 58 19 ((h4.1 58 19) + (Int32.ofInt 1)))) zp_188 rfl ?_
          refine zQ_goto zp_188 rfl (t := 98) rfl ?_
          refine zQ_seq 3 (pc' := 103) (L' := [some (.ref 58), some (.int x1), some (.int (Int32.ofInt 0))]) (S' := []) (h' := (zSet (zSet h4 58 19 ((h4.1 58 19) + (Int32.ofInt 1))) 58 20 x1)) zp_188 rfl ?_
          exact ((r4'.2 c5).1 c6)
        · refine zQ_seq 1 (pc' := 77) (L' := [some (.ref 58), some (.int x1), o2]) (S' := [.int x1, .ref 58]) (h' := (zSet h4 58 19 ((h4.1 58 19) + (Int32.ofInt 1)))) zp_188 rfl ?_
          refine zQ_csI (M' := 123) (as := [.int x1]) (S' := [.ref 58]) zp_188 rfl rfl rfl zp_123 (Or.inl rfl) rfl rfl (zqm_imp ((r4'.2 c5).2 c6) (fun rv h7 r7 => zri_imp r7 (fun v7 r7' => ?_)))
          refine zQ_seq 2 (pc' := 84) (L' := [some (.ref 58), some (.int x1), o2]) (S' := [.int (h7.1 58 20), .int v7, .ref 58]) (h' := h7) zp_188 rfl ?_
          refine zQ_csI (M' := 123) (as := [.int (h7.1 58 20)]) (S' := [.int v7, .ref 58]) zp_188 rfl rfl rfl zp_123 (Or.inl rfl) rfl rfl (zqm_imp r7' (fun rv h8 r8 => zri_imp r8 (fun v8 r8' => ?_)))
          refine zQ_ic zp_188 rfl (t := 94) rfl (i := v7.toInt) (j := v8.toInt) rfl rfl (fun c9 => ?_) (fun c9 => ?_)
          · refine zQ_seq 5 (pc' := 103) (L' := [some (.ref 58), some (.int x1), some (.int (Int32.ofInt 0))]) (S' := []) (h' := (zSet h8 58 20 (h8.1 58 20))) zp_188 rfl ?_
            exact (r8'.1 c9)
          · refine zQ_seq 1 (pc' := 91) (L' := [some (.ref 58), some (.int x1), o2]) (S' := [.int x1, .ref 58]) (h' := h8) zp_188 rfl ?_
            refine zQ_goto zp_188 rfl (t := 98) rfl ?_
            refine zQ_seq 3 (pc' := 103) (L' := [some (.ref 58), some (.int x1), some (.int (Int32.ofInt 0))]) (S' := []) (h' := (zSet h8 58 20 x1)) zp_188 rfl ?_
            exact (r8'.2 c9)
theorem s_188_103 {n : Nat} {h : zH} {Q : Option Value → zH → Prop} (x1 : Int32) (x2 : Int32) (H : (((15 : Int) ≤ x2.toInt → zQ n 188 34 [some (.ref 58), some (.int (x1 + Int32.ofInt 1)), some (.int x2)] [] h Q) ∧ (¬ ((15 : Int) ≤ x2.toInt) → (0 ≤ x2.toInt → x2.toInt < 15 → zqm 122 [.int x1, .int x2] h (fun rv h3 => zri rv (fun v3 => ((v3.toInt = 0 → (0 ≤ x2.toInt → x2.toInt < 15 → zQ n 188 103 [some (.ref 58), some (.int x1), some (.int (x2 + Int32.ofInt 1))] [] (zSet h3 70 x2.toInt.toNat ((h.1 70 x2.toInt.toNat) + (Int32.ofInt 0))) Q)) ∧ (¬ (v3.toInt = 0) → (0 ≤ x2.toInt → x2.toInt < 15 → zQ n 188 103 [some (.ref 58), some (.int x1), some (.int (x2 + Int32.ofInt 1))] [] (zSet h3 70 x2.toInt.toNat ((h.1 70 x2.toInt.toNat) + (Int32.ofInt 1))) Q))))))))) : zQ (n + 1) 188 103 [some (.ref 58), some (.int x1), some (.int x2)] [] h Q := by
  refine zQ_seqL 1 (pc' := 106) (L' := [some (.ref 58), some (.int x1), some (.int x2)]) (S' := [.int (Int32.ofInt 15), .int x2]) (h' := h) zp_188 rfl ?_
  refine zQ_ic zp_188 rfl (t := 137) rfl (i := x2.toInt) (j := (15 : Int)) rfl kc_15 (fun c1 => ?_) (fun c1 => ?_)
  · refine zQ_seq 1 (pc' := 140) (L' := [some (.ref 58), some (.int (x1 + Int32.ofInt 1)), some (.int x2)]) (S' := []) (h' := h) zp_188 rfl ?_
    refine zQ_goto zp_188 rfl (t := 34) rfl ?_
    exact (H.1 c1)
  · refine zQ_seq 4 (pc' := 115) (L' := [some (.ref 58), some (.int x1), some (.int x2)]) (S' := [.int x2, .ref 70, .int x2, .ref 70]) (h' := h) zp_188 rfl ?_
    refine zQ_ial (N := 15) (f := h.1 70) zp_188 rfl rfl rfl (fun b2 b2' => ?_)
    refine zQ_seq 2 (pc' := 118) (L' := [some (.ref 58), some (.int x1), some (.int x2)]) (S' := [.int x2, .int x1, .int (h.1 70 x2.toInt.toNat), .int x2, .ref 70]) (h' := h) zp_188 rfl ?_
    refine zQ_csI (M' := 122) (as := [.int x1, .int x2]) (S' := [.int (h.1 70 x2.toInt.toNat), .int x2, .ref 70]) zp_188 rfl rfl rfl zp_122 (Or.inr rfl) rfl rfl (zqm_imp ((H.2 c1) b2 b2') (fun rv h3 r3 => zri_imp r3 (fun v3 r3' => ?_)))
    refine zQ_if zp_188 rfl (t := 128) rfl (i := v3.toInt) rfl (fun c4 => ?_) (fun c4 => ?_)
    · refine zQ_seq 2 (pc' := 130) (L' := [some (.ref 58), some (.int x1), some (.int x2)]) (S' := [.int ((h.1 70 x2.toInt.toNat) + (Int32.ofInt 0)), .int x2, .ref 70]) (h' := h3) zp_188 rfl ?_
      refine zQ_ias (N := 15) zp_188 rfl rfl rfl (fun b5 b5' => ?_)
      refine zQ_seq 1 (pc' := 134) (L' := [some (.ref 58), some (.int x1), some (.int (x2 + Int32.ofInt 1))]) (S' := []) (h' := (zSet h3 70 x2.toInt.toNat ((h.1 70 x2.toInt.toNat) + (Int32.ofInt 0)))) zp_188 rfl ?_
      refine zQ_goto zp_188 rfl (t := 103) rfl ?_
      exact ((r3'.1 c4) b5 b5')
    · refine zQ_seq 1 (pc' := 125) (L' := [some (.ref 58), some (.int x1), some (.int x2)]) (S' := [.int (Int32.ofInt 1), .int (h.1 70 x2.toInt.toNat), .int x2, .ref 70]) (h' := h3) zp_188 rfl ?_
      refine zQ_goto zp_188 rfl (t := 129) rfl ?_
      refine zQ_seq 1 (pc' := 130) (L' := [some (.ref 58), some (.int x1), some (.int x2)]) (S' := [.int ((h.1 70 x2.toInt.toNat) + (Int32.ofInt 1)), .int x2, .ref 70]) (h' := h3) zp_188 rfl ?_
      refine zQ_ias (N := 15) zp_188 rfl rfl rfl (fun b6 b6' => ?_)
      refine zQ_seq 1 (pc' := 134) (L' := [some (.ref 58), some (.int x1), some (.int (x2 + Int32.ofInt 1))]) (S' := []) (h' := (zSet h3 70 x2.toInt.toNat ((h.1 70 x2.toInt.toNat) + (Int32.ofInt 1)))) zp_188 rfl ?_
      refine zQ_goto zp_188 rfl (t := 103) rfl ?_
      exact ((r3'.2 c4) b6 b6')
theorem s_189 {h : zH} {Q : Option Value → zH → Prop} (a1 : Int32) (a2 : Int32) (a3 : Int32) (H : zqm 150 [.ref 58] h (fun rv h1 => zri rv (fun v1 => ((¬ v1.toInt = 0 → zqm 121 [.int a3, .int (Int32.ofInt 0), .int (Int32.ofInt 1)] h1 (fun rv h3 => zri rv (fun v3 => zqm 186 [.ref 58, .int a1, .int a2, .int v3, .int (h3.1 64 57)] h3 (fun rv h4 => zri rv (fun v4 => ((0 ≤ v4.toInt → zqm 188 [.ref 58] h4 (fun _ h6 => ((¬ a3.toInt = 0 → Q (some (.int (h6.1 58 20))) h6) ∧ (¬ (¬ a3.toInt = 0) → Q (some (.int (h6.1 58 19))) h6)))) ∧ (¬ (0 ≤ v4.toInt) → Q (some (.int v4)) h4))))))) ∧ (¬ (¬ v1.toInt = 0) → Q (some (.int (-1000002 : Int32))) h1))))) : zqm 189 [.ref 58, .int a1, .int a2, .int a3] h Q := by
  refine zqm_of zp_189 (fun n => ?_)
  show zQ n 189 0 [some (.ref 58), some (.int a1), some (.int a2), some (.int a3), none] [] h Q
  refine zQ_seq 1 (pc' := 1) (L' := [some (.ref 58), some (.int a1), some (.int a2), some (.int a3), none]) (S' := [.ref 58]) (h' := h) zp_189 rfl ?_
  refine zQ_cvI (M' := 150) (as := [.ref 58]) (S' := []) zp_189 rfl rfl zp_150 (Or.inr rfl) rfl rfl (zqm_imp H (fun rv h1 r1 => zri_imp r1 (fun v1 r1' => ?_)))
  refine zQ_if zp_189 rfl (t := 10) rfl (i := v1.toInt) rfl (fun c2 => ?_) (fun c2 => ?_)
  · refine zQ_seq 6 (pc' := 16) (L' := [some (.ref 58), some (.int a1), some (.int a2), some (.int a3), none]) (S' := [.int (Int32.ofInt 1), .int (Int32.ofInt 0), .int a3, .int a2, .int a1, .ref 58]) (h' := h1) zp_189 rfl ?_
    refine zQ_csI (M' := 121) (as := [.int a3, .int (Int32.ofInt 0), .int (Int32.ofInt 1)]) (S' := [.int a2, .int a1, .ref 58]) zp_189 rfl rfl rfl zp_121 (Or.inr rfl) rfl rfl (zqm_imp (r1'.1 c2) (fun rv h3 r3 => zri_imp r3 (fun v3 r3' => ?_)))
    refine zQ_seq 3 (pc' := 25) (L' := [some (.ref 58), some (.int a1), some (.int a2), some (.int a3), none]) (S' := [.int (Int32.ofInt 57), .ref 64, .int v3, .int a2, .int a1, .ref 58]) (h' := h3) zp_189 rfl ?_
    refine zQ_ialk 57 (N := 62) (f := h3.1 64) zp_189 rfl rfl kc_57 ?_
    refine zQ_cvI (M' := 186) (as := [.ref 58, .int a1, .int a2, .int v3, .int (h3.1 64 57)]) (S' := []) zp_189 rfl rfl zp_186 (Or.inl rfl) rfl rfl (zqm_imp r3' (fun rv h4 r4 => zri_imp r4 (fun v4 r4' => ?_)))
    refine zQ_seq 2 (pc' := 33) (L' := [some (.ref 58), some (.int a1), some (.int a2), some (.int a3), some (.int v4)]) (S' := [.int v4]) (h' := h4) zp_189 rfl ?_
    refine zQ_if zp_189 rfl (t := 39) rfl (i := v4.toInt) rfl (fun c5 => ?_) (fun c5 => ?_)
    · refine zQ_seq 1 (pc' := 40) (L' := [some (.ref 58), some (.int a1), some (.int a2), some (.int a3), some (.int v4)]) (S' := [.ref 58]) (h' := h4) zp_189 rfl ?_
      refine zQ_cvV (M' := 188) (as := [.ref 58]) (S' := []) zp_189 rfl rfl zp_188 rfl rfl rfl (zqm_imp (r4'.1 c5) (fun rv h6 r6 => ?_))
      refine zQ_seq 1 (pc' := 44) (L' := [some (.ref 58), some (.int a1), some (.int a2), some (.int a3), some (.int v4)]) (S' := [.int a3]) (h' := h6) zp_189 rfl ?_
      refine zQ_if zp_189 rfl (t := 54) rfl (i := a3.toInt) rfl (fun c7 => ?_) (fun c7 => ?_)
      · refine zQ_seq 2 (pc' := 58) (L' := [some (.ref 58), some (.int a1), some (.int a2), some (.int a3), some (.int v4)]) (S' := [.int (h6.1 58 20)]) (h' := h6) zp_189 rfl ?_
        exact zQ_retI zp_189 rfl (r6.1 c7)
      · refine zQ_seq 2 (pc' := 51) (L' := [some (.ref 58), some (.int a1), some (.int a2), some (.int a3), some (.int v4)]) (S' := [.int (h6.1 58 19)]) (h' := h6) zp_189 rfl ?_
        refine zQ_goto zp_189 rfl (t := 58) rfl ?_
        exact zQ_retI zp_189 rfl (r6.2 c7)
    · refine zQ_seq 1 (pc' := 38) (L' := [some (.ref 58), some (.int a1), some (.int a2), some (.int a3), some (.int v4)]) (S' := [.int v4]) (h' := h4) zp_189 rfl ?_
      exact zQ_retI zp_189 rfl (r4'.2 c5)
  · refine zQ_seq 1 (pc' := 9) (L' := [some (.ref 58), some (.int a1), some (.int a2), some (.int a3), none]) (S' := [.int (-1000002 : Int32)]) (h' := h1) zp_189 rfl ?_
    exact zQ_retI zp_189 rfl (r1'.2 c2)
theorem s_190 {h : zH} {Q : Option Value → zH → Prop} (a1 : Int32) (a2 : Int32) (H : (∀ n, zqm 150 [.ref 58] h (fun rv h1 => zri rv (fun v1 => ((¬ v1.toInt = 0 → zqm 186 [.ref 58, .int a1, .int a2, .int (Int32.ofInt 1), .int (h1.1 64 57)] h1 (fun rv h3 => zri rv (fun v3 => ((0 ≤ v3.toInt → zqm 188 [.ref 58] h3 (fun _ h5 => zQ n 190 43 [some (.ref 58), some (.int a1), some (.int a2), some (.int v3), some (.int (-1000000 : Int32)), some (.int (Int32.ofInt 14))] [] h5 Q)) ∧ (¬ (0 ≤ v3.toInt) → Q (some (.int v3)) h3))))) ∧ (¬ (¬ v1.toInt = 0) → Q (some (.int (-1000002 : Int32))) h1)))))) : zqm 190 [.ref 58, .int a1, .int a2] h Q := by
  refine zqm_of zp_190 (fun n => ?_)
  have H := H n
  show zQ n 190 0 [some (.ref 58), some (.int a1), some (.int a2), none, none, none] [] h Q
  refine zQ_seq 1 (pc' := 1) (L' := [some (.ref 58), some (.int a1), some (.int a2), none, none, none]) (S' := [.ref 58]) (h' := h) zp_190 rfl ?_
  refine zQ_cvI (M' := 150) (as := [.ref 58]) (S' := []) zp_190 rfl rfl zp_150 (Or.inr rfl) rfl rfl (zqm_imp H (fun rv h1 r1 => zri_imp r1 (fun v1 r1' => ?_)))
  refine zQ_if zp_190 rfl (t := 10) rfl (i := v1.toInt) rfl (fun c2 => ?_) (fun c2 => ?_)
  · refine zQ_seq 7 (pc' := 20) (L' := [some (.ref 58), some (.int a1), some (.int a2), none, none, none]) (S' := [.int (Int32.ofInt 57), .ref 64, .int (Int32.ofInt 1), .int a2, .int a1, .ref 58]) (h' := h1) zp_190 rfl ?_
    refine zQ_ialk 57 (N := 62) (f := h1.1 64) zp_190 rfl rfl kc_57 ?_
    refine zQ_cvI (M' := 186) (as := [.ref 58, .int a1, .int a2, .int (Int32.ofInt 1), .int (h1.1 64 57)]) (S' := []) zp_190 rfl rfl zp_186 (Or.inl rfl) rfl rfl (zqm_imp (r1'.1 c2) (fun rv h3 r3 => zri_imp r3 (fun v3 r3' => ?_)))
    refine zQ_seq 2 (pc' := 26) (L' := [some (.ref 58), some (.int a1), some (.int a2), some (.int v3), none, none]) (S' := [.int v3]) (h' := h3) zp_190 rfl ?_
    refine zQ_if zp_190 rfl (t := 31) rfl (i := v3.toInt) rfl (fun c4 => ?_) (fun c4 => ?_)
    · refine zQ_seq 1 (pc' := 32) (L' := [some (.ref 58), some (.int a1), some (.int a2), some (.int v3), none, none]) (S' := [.ref 58]) (h' := h3) zp_190 rfl ?_
      refine zQ_cvV (M' := 188) (as := [.ref 58]) (S' := []) zp_190 rfl rfl zp_188 rfl rfl rfl (zqm_imp (r3'.1 c4) (fun rv h5 r5 => ?_))
      refine zQ_seq 4 (pc' := 43) (L' := [some (.ref 58), some (.int a1), some (.int a2), some (.int v3), some (.int (-1000000 : Int32)), some (.int (Int32.ofInt 14))]) (S' := []) (h' := h5) zp_190 rfl ?_
      exact r5
    · refine zQ_seq 1 (pc' := 30) (L' := [some (.ref 58), some (.int a1), some (.int a2), some (.int v3), none, none]) (S' := [.int v3]) (h' := h3) zp_190 rfl ?_
      exact zQ_retI zp_190 rfl (r3'.2 c4)
  · refine zQ_seq 1 (pc' := 9) (L' := [some (.ref 58), some (.int a1), some (.int a2), none, none, none]) (S' := [.int (-1000002 : Int32)]) (h' := h1) zp_190 rfl ?_
    exact zQ_retI zp_190 rfl (r1'.2 c2)
theorem s_190_43 {n : Nat} {h : zH} {Q : Option Value → zH → Prop} (x1 : Int32) (x2 : Int32) (x3 : Int32) (x4 : Int32) (x5 : Int32) (H : ((x5.toInt < 0 → Q (some (.int x4)) h) ∧ (¬ (x5.toInt < 0) → (((h.1 58 19).toInt ≤ 0 → Q (some (.int x4)) h) ∧ (¬ ((h.1 58 19).toInt ≤ 0) → ((x4.toInt = (-1000000 : Int) → zQ n 190 43 [some (.ref 58), some (.int x1), some (.int x2), some (.int x3), some (.int x5), some (.int (x5 + Int32.ofInt (-1)))] [] h Q) ∧ (¬ (x4.toInt = (-1000000 : Int)) → (0 ≤ x5.toInt → x5.toInt < 15 → zqm 124 [.int (((Int32.ofInt 2) * (h.1 70 x5.toInt.toNat)) - (h.1 58 19))] h (fun rv h5 => zri rv (fun v5 => (0 ≤ x4.toInt → x4.toInt < 15 → zqm 124 [.int (((Int32.ofInt 2) * (h5.1 70 x4.toInt.toNat)) - (h5.1 58 19))] h5 (fun rv h7 => zri rv (fun v7 => ((v7.toInt < v5.toInt → zQ n 190 43 [some (.ref 58), some (.int x1), some (.int x2), some (.int x3), some (.int x4), some (.int (x5 + Int32.ofInt (-1)))] [] h7 Q) ∧ (¬ (v7.toInt < v5.toInt) → zQ n 190 43 [some (.ref 58), some (.int x1), some (.int x2), some (.int x3), some (.int x5), some (.int (x5 + Int32.ofInt (-1)))] [] h7 Q))))))))))))))) : zQ (n + 1) 190 43 [some (.ref 58), some (.int x1), some (.int x2), some (.int x3), some (.int x4), some (.int x5)] [] h Q := by
  refine zQ_seqL 0 (pc' := 45) (L' := [some (.ref 58), some (.int x1), some (.int x2), some (.int x3), some (.int x4), some (.int x5)]) (S' := [.int x5]) (h' := h) zp_190 rfl ?_
  refine zQ_if zp_190 rfl (t := 114) rfl (i := x5.toInt) rfl (fun c1 => ?_) (fun c1 => ?_)
  · refine zQ_seq 1 (pc' := 116) (L' := [some (.ref 58), some (.int x1), some (.int x2), some (.int x3), some (.int x4), some (.int x5)]) (S' := [.int x4]) (h' := h) zp_190 rfl ?_
    exact zQ_retI zp_190 rfl (H.1 c1)
  · refine zQ_seq 2 (pc' := 52) (L' := [some (.ref 58), some (.int x1), some (.int x2), some (.int x3), some (.int x4), some (.int x5)]) (S' := [.int (h.1 58 19)]) (h' := h) zp_190 rfl ?_
    refine zQ_if zp_190 rfl (t := 114) rfl (i := (h.1 58 19).toInt) rfl (fun c2 => ?_) (fun c2 => ?_)
    · refine zQ_seq 1 (pc' := 116) (L' := [some (.ref 58), some (.int x1), some (.int x2), some (.int x3), some (.int x4), some (.int x5)]) (S' := [.int x4]) (h' := h) zp_190 rfl ?_
      exact zQ_retI zp_190 rfl ((H.2 c1).1 c2)
    · refine zQ_seq 2 (pc' := 59) (L' := [some (.ref 58), some (.int x1), some (.int x2), some (.int x3), some (.int x4), some (.int x5)]) (S' := [.int (-1000000 : Int32), .int x4]) (h' := h) zp_190 rfl ?_
      refine zQ_ic zp_190 rfl (t := 99) rfl (i := x4.toInt) (j := (-1000000 : Int)) rfl kdm1000000 (fun c3 => ?_) (fun c3 => ?_)
      · refine zQ_seq 1 (pc' := 101) (L' := [some (.ref 58), some (.int x1), some (.int x2), some (.int x3), some (.int x4), some (.int x5)]) (S' := [.int x5]) (h' := h) zp_190 rfl ?_
        refine zQ_goto zp_190 rfl (t := 106) rfl ?_
        refine zQ_seq 2 (pc' := 111) (L' := [some (.ref 58), some (.int x1), some (.int x2), some (.int x3), some (.int x5), some (.int (x5 + Int32.ofInt (-1)))]) (S' := []) (h' := h) zp_190 rfl ?_
        refine zQ_goto zp_190 rfl (t := 43) rfl ?_
        exact (((H.2 c1).2 c2).1 c3)
      · refine zQ_seq 4 (pc' := 69) (L' := [some (.ref 58), some (.int x1), some (.int x2), some (.int x3), some (.int x4), some (.int x5)]) (S' := [.int x5, .ref 70, .int (Int32.ofInt 2)]) (h' := h) zp_190 rfl ?_
        refine zQ_ial (N := 15) (f := h.1 70) zp_190 rfl rfl rfl (fun b4 b4' => ?_)
        refine zQ_seq 4 (pc' := 76) (L' := [some (.ref 58), some (.int x1), some (.int x2), some (.int x3), some (.int x4), some (.int x5)]) (S' := [.int (((Int32.ofInt 2) * (h.1 70 x5.toInt.toNat)) - (h.1 58 19))]) (h' := h) zp_190 rfl ?_
        refine zQ_csI (M' := 124) (as := [.int (((Int32.ofInt 2) * (h.1 70 x5.toInt.toNat)) - (h.1 58 19))]) (S' := []) zp_190 rfl rfl rfl zp_124 (Or.inl rfl) rfl rfl (zqm_imp ((((H.2 c1).2 c2).2 c3) b4 b4') (fun rv h5 r5 => zri_imp r5 (fun v5 r5' => ?_)))
        refine zQ_seq 4 (pc' := 86) (L' := [some (.ref 58), some (.int x1), some (.int x2), some (.int x3), some (.int x4), some (.int x5)]) (S' := [.int x4, .ref 70, .int (Int32.ofInt 2), .int v5]) (h' := h5) zp_190 rfl ?_
        refine zQ_ial (N := 15) (f := h5.1 70) zp_190 rfl rfl rfl (fun b6 b6' => ?_)
        refine zQ_seq 4 (pc' := 93) (L' := [some (.ref 58), some (.int x1), some (.int x2), some (.int x3), some (.int x4), some (.int x5)]) (S' := [.int (((Int32.ofInt 2) * (h5.1 70 x4.toInt.toNat)) - (h5.1 58 19)), .int v5]) (h' := h5) zp_190 rfl ?_
        refine zQ_csI (M' := 124) (as := [.int (((Int32.ofInt 2) * (h5.1 70 x4.toInt.toNat)) - (h5.1 58 19))]) (S' := [.int v5]) zp_190 rfl rfl rfl zp_124 (Or.inl rfl) rfl rfl (zqm_imp (r5' b6 b6') (fun rv h7 r7 => zri_imp r7 (fun v7 r7' => ?_)))
        refine zQ_ic zp_190 rfl (t := 104) rfl (i := v5.toInt) (j := v7.toInt) rfl rfl (fun c8 => ?_) (fun c8 => ?_)
        · refine zQ_seq 3 (pc' := 111) (L' := [some (.ref 58), some (.int x1), some (.int x2), some (.int x3), some (.int x4), some (.int (x5 + Int32.ofInt (-1)))]) (S' := []) (h' := h7) zp_190 rfl ?_
          refine zQ_goto zp_190 rfl (t := 43) rfl ?_
          exact (r7'.1 c8)
        · refine zQ_seq 1 (pc' := 101) (L' := [some (.ref 58), some (.int x1), some (.int x2), some (.int x3), some (.int x4), some (.int x5)]) (S' := [.int x5]) (h' := h7) zp_190 rfl ?_
          refine zQ_goto zp_190 rfl (t := 106) rfl ?_
          refine zQ_seq 2 (pc' := 111) (L' := [some (.ref 58), some (.int x1), some (.int x2), some (.int x3), some (.int x5), some (.int (x5 + Int32.ofInt (-1)))]) (S' := []) (h' := h7) zp_190 rfl ?_
          refine zQ_goto zp_190 rfl (t := 43) rfl ?_
          exact (r7'.2 c8)
theorem s_191 {h : zH} {Q : Option Value → zH → Prop} (a1 : Int32) (H : (∀ n, zqm 150 [.ref 58] h (fun rv h1 => zri rv (fun v1 => ((¬ v1.toInt = 0 → zqm 121 [.int a1, .int (Int32.ofInt 0), .int (Int32.ofInt 1)] h1 (fun rv h3 => zri rv (fun v3 => ((¬ v3.toInt = 0 → zQ n 191 27 [some (.ref 58), some (.int a1), some (.int (-1000000 : Int32)), some (.int (Int32.ofInt 0)), none, none] [] h3 Q) ∧ (¬ (¬ v3.toInt = 0) → Q (some (.int (-1000001 : Int32))) h3))))) ∧ (¬ (¬ v1.toInt = 0) → Q (some (.int (-1000002 : Int32))) h1)))))) : zqm 191 [.ref 58, .int a1] h Q := by
  refine zqm_of zp_191 (fun n => ?_)
  have H := H n
  show zQ n 191 0 [some (.ref 58), some (.int a1), none, none, none, none] [] h Q
  refine zQ_seq 1 (pc' := 1) (L' := [some (.ref 58), some (.int a1), none, none, none, none]) (S' := [.ref 58]) (h' := h) zp_191 rfl ?_
  refine zQ_cvI (M' := 150) (as := [.ref 58]) (S' := []) zp_191 rfl rfl zp_150 (Or.inr rfl) rfl rfl (zqm_imp H (fun rv h1 r1 => zri_imp r1 (fun v1 r1' => ?_)))
  refine zQ_if zp_191 rfl (t := 10) rfl (i := v1.toInt) rfl (fun c2 => ?_) (fun c2 => ?_)
  · refine zQ_seq 3 (pc' := 13) (L' := [some (.ref 58), some (.int a1), none, none, none, none]) (S' := [.int (Int32.ofInt 1), .int (Int32.ofInt 0), .int a1]) (h' := h1) zp_191 rfl ?_
    refine zQ_csI (M' := 121) (as := [.int a1, .int (Int32.ofInt 0), .int (Int32.ofInt 1)]) (S' := []) zp_191 rfl rfl rfl zp_121 (Or.inr rfl) rfl rfl (zqm_imp (r1'.1 c2) (fun rv h3 r3 => zri_imp r3 (fun v3 r3' => ?_)))
    refine zQ_if zp_191 rfl (t := 22) rfl (i := v3.toInt) rfl (fun c4 => ?_) (fun c4 => ?_)
    · refine zQ_seq 4 (pc' := 27) (L' := [some (.ref 58), some (.int a1), some (.int (-1000000 : Int32)), some (.int (Int32.ofInt 0)), none, none]) (S' := []) (h' := h3) zp_191 rfl ?_
      exact (r3'.1 c4)
    · refine zQ_seq 1 (pc' := 21) (L' := [some (.ref 58), some (.int a1), none, none, none, none]) (S' := [.int (-1000001 : Int32)]) (h' := h3) zp_191 rfl ?_
      exact zQ_retI zp_191 rfl (r3'.2 c4)
  · refine zQ_seq 1 (pc' := 9) (L' := [some (.ref 58), some (.int a1), none, none, none, none]) (S' := [.int (-1000002 : Int32)]) (h' := h1) zp_191 rfl ?_
    exact zQ_retI zp_191 rfl (r1'.2 c2)
theorem s_191_27 {n : Nat} {h : zH} {Q : Option Value → zH → Prop} (x1 : Int32) (x2 : Int32) (x3 : Int32) (o4 : Option Value) (o5 : Option Value) (H : ((((Int32.ofInt 1) <<< ((h.1 64 57) &&& 31)).toInt ≤ x3.toInt → ((¬ x2.toInt = (-1000000 : Int) → ((¬ x1.toInt = 0 → Q (some (.int x2)) h) ∧ (¬ (¬ x1.toInt = 0) → zqm 123 [.int x2] h (fun rv h4 => zri rv (fun v4 => Q (some (.int v4)) h4))))) ∧ (¬ (¬ x2.toInt = (-1000000 : Int)) → Q (some (.int (-1000000 : Int32))) h))) ∧ (¬ (((Int32.ofInt 1) <<< ((h.1 64 57) &&& 31)).toInt ≤ x3.toInt) → zQ n 191 46 [some (.ref 58), some (.int x1), some (.int x2), some (.int x3), some (.int (Int32.ofInt 0)), some (.int (Int32.ofInt 0))] [] h Q))) : zQ (n + 1) 191 27 [some (.ref 58), some (.int x1), some (.int x2), some (.int x3), o4, o5] [] h Q := by
  refine zQ_seqL 4 (pc' := 35) (L' := [some (.ref 58), some (.int x1), some (.int x2), some (.int x3), o4, o5]) (S' := [.int (Int32.ofInt 57), .ref 64, .int (Int32.ofInt 1), .int x3]) (h' := h) zp_191 rfl ?_
  refine zQ_ialk 57 (N := 62) (f := h.1 64) zp_191 rfl rfl kc_57 ?_
  refine zQ_seq 1 (pc' := 37) (L' := [some (.ref 58), some (.int x1), some (.int x2), some (.int x3), o4, o5]) (S' := [.int ((Int32.ofInt 1) <<< ((h.1 64 57) &&& 31)), .int x3]) (h' := h) zp_191 rfl ?_
  refine zQ_ic zp_191 rfl (t := 141) rfl (i := x3.toInt) (j := ((Int32.ofInt 1) <<< ((h.1 64 57) &&& 31)).toInt) rfl rfl (fun c1 => ?_) (fun c1 => ?_)
  · refine zQ_seq 2 (pc' := 144) (L' := [some (.ref 58), some (.int x1), some (.int x2), some (.int x3), o4, o5]) (S' := [.int (-1000000 : Int32), .int x2]) (h' := h) zp_191 rfl ?_
    refine zQ_ic zp_191 rfl (t := 152) rfl (i := x2.toInt) (j := (-1000000 : Int)) rfl kdm1000000 (fun c2 => ?_) (fun c2 => ?_)
    · refine zQ_seq 1 (pc' := 153) (L' := [some (.ref 58), some (.int x1), some (.int x2), some (.int x3), o4, o5]) (S' := [.int x1]) (h' := h) zp_191 rfl ?_
      refine zQ_if zp_191 rfl (t := 163) rfl (i := x1.toInt) rfl (fun c3 => ?_) (fun c3 => ?_)
      · refine zQ_seq 1 (pc' := 164) (L' := [some (.ref 58), some (.int x1), some (.int x2), some (.int x3), o4, o5]) (S' := [.int x2]) (h' := h) zp_191 rfl ?_
        exact zQ_retI zp_191 rfl (((H.1 c1).1 c2).1 c3)
      · refine zQ_seq 1 (pc' := 157) (L' := [some (.ref 58), some (.int x1), some (.int x2), some (.int x3), o4, o5]) (S' := [.int x2]) (h' := h) zp_191 rfl ?_
        refine zQ_csI (M' := 123) (as := [.int x2]) (S' := []) zp_191 rfl rfl rfl zp_123 (Or.inl rfl) rfl rfl (zqm_imp (((H.1 c1).1 c2).2 c3) (fun rv h4 r4 => zri_imp r4 (fun v4 r4' => ?_)))
        refine zQ_goto zp_191 rfl (t := 164) rfl ?_
        exact zQ_retI zp_191 rfl r4'
    · refine zQ_seq 1 (pc' := 149) (L' := [some (.ref 58), some (.int x1), some (.int x2), some (.int x3), o4, o5]) (S' := [.int (-1000000 : Int32)]) (h' := h) zp_191 rfl ?_
      refine zQ_goto zp_191 rfl (t := 164) rfl ?_
      exact zQ_retI zp_191 rfl ((H.1 c1).2 c2)
  · refine zQ_seq 4 (pc' := 46) (L' := [some (.ref 58), some (.int x1), some (.int x2), some (.int x3), some (.int (Int32.ofInt 0)), some (.int (Int32.ofInt 0))]) (S' := []) (h' := h) zp_191 rfl ?_
    exact (H.2 c1)
theorem s_191_46 {n : Nat} {h : zH} {Q : Option Value → zH → Prop} (x1 : Int32) (x2 : Int32) (x3 : Int32) (x4 : Int32) (x5 : Int32) (H : (((h.1 64 57).toInt ≤ x5.toInt → ((x2.toInt = (-1000000 : Int) → (((1 : Int) = 0 → zQ n 191 27 [some (.ref 58), some (.int x1), some (.int x2), some (.int (x3 + Int32.ofInt 1)), some (.int x4), some (.int (Int32.ofInt 1))] [] h Q) ∧ (¬ ((1 : Int) = 0) → zqm 157 [.ref 58] h (fun rv h4 => zri rv (fun v4 => ((¬ (v4 &&& (x4 ^^^ (Int32.ofInt (-1)))).toInt = 0 → zQ n 191 27 [some (.ref 58), some (.int x1), some (.int x2), some (.int (x3 + Int32.ofInt 1)), some (.int x4), some (.int (Int32.ofInt 1))] [] h4 Q) ∧ (¬ (¬ (v4 &&& (x4 ^^^ (Int32.ofInt (-1)))).toInt = 0) → zQ n 191 27 [some (.ref 58), some (.int x1), some (.int x3), some (.int (x3 + Int32.ofInt 1)), some (.int x4), some (.int (Int32.ofInt 1))] [] h4 Q))))))) ∧ (¬ (x2.toInt = (-1000000 : Int)) → zqm 123 [.int x3] h (fun rv h6 => zri rv (fun v6 => zqm 123 [.int x2] h6 (fun rv h7 => zri rv (fun v7 => ((v7.toInt ≤ v6.toInt → (((0 : Int) = 0 → zQ n 191 27 [some (.ref 58), some (.int x1), some (.int x2), some (.int (x3 + Int32.ofInt 1)), some (.int x4), some (.int (Int32.ofInt 0))] [] h7 Q) ∧ (¬ ((0 : Int) = 0) → zqm 157 [.ref 58] h7 (fun rv h10 => zri rv (fun v10 => ((¬ (v10 &&& (x4 ^^^ (Int32.ofInt (-1)))).toInt = 0 → zQ n 191 27 [some (.ref 58), some (.int x1), some (.int x2), some (.int (x3 + Int32.ofInt 1)), some (.int x4), some (.int (Int32.ofInt 0))] [] h10 Q) ∧ (¬ (¬ (v10 &&& (x4 ^^^ (Int32.ofInt (-1)))).toInt = 0) → zQ n 191 27 [some (.ref 58), some (.int x1), some (.int x3), some (.int (x3 + Int32.ofInt 1)), some (.int x4), some (.int (Int32.ofInt 0))] [] h10 Q))))))) ∧ (¬ (v7.toInt ≤ v6.toInt) → (((1 : Int) = 0 → zQ n 191 27 [some (.ref 58), some (.int x1), some (.int x2), some (.int (x3 + Int32.ofInt 1)), some (.int x4), some (.int (Int32.ofInt 1))] [] h7 Q) ∧ (¬ ((1 : Int) = 0) → zqm 157 [.ref 58] h7 (fun rv h13 => zri rv (fun v13 => ((¬ (v13 &&& (x4 ^^^ (Int32.ofInt (-1)))).toInt = 0 → zQ n 191 27 [some (.ref 58), some (.int x1), some (.int x2), some (.int (x3 + Int32.ofInt 1)), some (.int x4), some (.int (Int32.ofInt 1))] [] h13 Q) ∧ (¬ (¬ (v13 &&& (x4 ^^^ (Int32.ofInt (-1)))).toInt = 0) → zQ n 191 27 [some (.ref 58), some (.int x1), some (.int x3), some (.int (x3 + Int32.ofInt 1)), some (.int x4), some (.int (Int32.ofInt 1))] [] h13 Q))))))))))))))) ∧ (¬ ((h.1 64 57).toInt ≤ x5.toInt) → zqm 122 [.int x3, .int x5] h (fun rv h15 => zri rv (fun v15 => ((v15.toInt = 0 → zQ n 191 46 [some (.ref 58), some (.int x1), some (.int x2), some (.int x3), some (.int (x4 ||| (Int32.ofInt 0))), some (.int (x5 + Int32.ofInt 1))] [] h15 Q) ∧ (¬ (v15.toInt = 0) → zqm 162 [.ref 58, .int x5] h15 (fun rv h17 => zri rv (fun v17 => zQ n 191 46 [some (.ref 58), some (.int x1), some (.int x2), some (.int x3), some (.int (x4 ||| v17)), some (.int (x5 + Int32.ofInt 1))] [] h17 Q))))))))) : zQ (n + 1) 191 46 [some (.ref 58), some (.int x1), some (.int x2), some (.int x3), some (.int x4), some (.int x5)] [] h Q := by
  refine zQ_seqL 3 (pc' := 54) (L' := [some (.ref 58), some (.int x1), some (.int x2), some (.int x3), some (.int x4), some (.int x5)]) (S' := [.int (Int32.ofInt 57), .ref 64, .int x5]) (h' := h) zp_191 rfl ?_
  refine zQ_ialk 57 (N := 62) (f := h.1 64) zp_191 rfl rfl kc_57 ?_
  refine zQ_ic zp_191 rfl (t := 88) rfl (i := x5.toInt) (j := (h.1 64 57).toInt) rfl rfl (fun c1 => ?_) (fun c1 => ?_)
  · refine zQ_seq 2 (pc' := 91) (L' := [some (.ref 58), some (.int x1), some (.int x2), some (.int x3), some (.int x4), some (.int x5)]) (S' := [.int (-1000000 : Int32), .int x2]) (h' := h) zp_191 rfl ?_
    refine zQ_ic zp_191 rfl (t := 105) rfl (i := x2.toInt) (j := (-1000000 : Int)) rfl kdm1000000 (fun c2 => ?_) (fun c2 => ?_)
    · refine zQ_seq 1 (pc' := 106) (L' := [some (.ref 58), some (.int x1), some (.int x2), some (.int x3), some (.int x4), some (.int x5)]) (S' := [.int (Int32.ofInt 1)]) (h' := h) zp_191 rfl ?_
      refine zQ_goto zp_191 rfl (t := 110) rfl ?_
      refine zQ_seq 2 (pc' := 114) (L' := [some (.ref 58), some (.int x1), some (.int x2), some (.int x3), some (.int x4), some (.int (Int32.ofInt 1))]) (S' := [.int (Int32.ofInt 1)]) (h' := h) zp_191 rfl ?_
      refine zQ_if zp_191 rfl (t := 133) rfl (i := (1 : Int)) kc_1 (fun c3 => ?_) (fun c3 => ?_)
      · refine zQ_seq 3 (pc' := 138) (L' := [some (.ref 58), some (.int x1), some (.int x2), some (.int (x3 + Int32.ofInt 1)), some (.int x4), some (.int (Int32.ofInt 1))]) (S' := []) (h' := h) zp_191 rfl ?_
        refine zQ_goto zp_191 rfl (t := 27) rfl ?_
        exact (((H.1 c1).1 c2).1 c3)
      · refine zQ_seq 1 (pc' := 118) (L' := [some (.ref 58), some (.int x1), some (.int x2), some (.int x3), some (.int x4), some (.int (Int32.ofInt 1))]) (S' := [.ref 58]) (h' := h) zp_191 rfl ?_
        refine zQ_cvI (M' := 157) (as := [.ref 58]) (S' := []) zp_191 rfl rfl zp_157 (Or.inl rfl) rfl rfl (zqm_imp (((H.1 c1).1 c2).2 c3) (fun rv h4 r4 => zri_imp r4 (fun v4 r4' => ?_)))
        refine zQ_seq 4 (pc' := 126) (L' := [some (.ref 58), some (.int x1), some (.int x2), some (.int x3), some (.int x4), some (.int (Int32.ofInt 1))]) (S' := [.int (v4 &&& (x4 ^^^ (Int32.ofInt (-1))))]) (h' := h4) zp_191 rfl ?_
        refine zQ_if zp_191 rfl (t := 133) rfl (i := (v4 &&& (x4 ^^^ (Int32.ofInt (-1)))).toInt) rfl (fun c5 => ?_) (fun c5 => ?_)
        · refine zQ_seq 3 (pc' := 138) (L' := [some (.ref 58), some (.int x1), some (.int x2), some (.int (x3 + Int32.ofInt 1)), some (.int x4), some (.int (Int32.ofInt 1))]) (S' := []) (h' := h4) zp_191 rfl ?_
          refine zQ_goto zp_191 rfl (t := 27) rfl ?_
          exact (r4'.1 c5)
        · refine zQ_seq 1 (pc' := 130) (L' := [some (.ref 58), some (.int x1), some (.int x2), some (.int x3), some (.int x4), some (.int (Int32.ofInt 1))]) (S' := [.int x3]) (h' := h4) zp_191 rfl ?_
          refine zQ_goto zp_191 rfl (t := 134) rfl ?_
          refine zQ_seq 2 (pc' := 138) (L' := [some (.ref 58), some (.int x1), some (.int x3), some (.int (x3 + Int32.ofInt 1)), some (.int x4), some (.int (Int32.ofInt 1))]) (S' := []) (h' := h4) zp_191 rfl ?_
          refine zQ_goto zp_191 rfl (t := 27) rfl ?_
          exact (r4'.2 c5)
    · refine zQ_seq 1 (pc' := 95) (L' := [some (.ref 58), some (.int x1), some (.int x2), some (.int x3), some (.int x4), some (.int x5)]) (S' := [.int x3]) (h' := h) zp_191 rfl ?_
      refine zQ_csI (M' := 123) (as := [.int x3]) (S' := []) zp_191 rfl rfl rfl zp_123 (Or.inl rfl) rfl rfl (zqm_imp ((H.1 c1).2 c2) (fun rv h6 r6 => zri_imp r6 (fun v6 r6' => ?_)))
      refine zQ_seq 1 (pc' := 99) (L' := [some (.ref 58), some (.int x1), some (.int x2), some (.int x3), some (.int x4), some (.int x5)]) (S' := [.int x2, .int v6]) (h' := h6) zp_191 rfl ?_
      refine zQ_csI (M' := 123) (as := [.int x2]) (S' := [.int v6]) zp_191 rfl rfl rfl zp_123 (Or.inl rfl) rfl rfl (zqm_imp r6' (fun rv h7 r7 => zri_imp r7 (fun v7 r7' => ?_)))
      refine zQ_ic zp_191 rfl (t := 109) rfl (i := v6.toInt) (j := v7.toInt) rfl rfl (fun c8 => ?_) (fun c8 => ?_)
      · refine zQ_seq 3 (pc' := 114) (L' := [some (.ref 58), some (.int x1), some (.int x2), some (.int x3), some (.int x4), some (.int (Int32.ofInt 0))]) (S' := [.int (Int32.ofInt 0)]) (h' := h7) zp_191 rfl ?_
        refine zQ_if zp_191 rfl (t := 133) rfl (i := (0 : Int)) kc_0 (fun c9 => ?_) (fun c9 => ?_)
        · refine zQ_seq 3 (pc' := 138) (L' := [some (.ref 58), some (.int x1), some (.int x2), some (.int (x3 + Int32.ofInt 1)), some (.int x4), some (.int (Int32.ofInt 0))]) (S' := []) (h' := h7) zp_191 rfl ?_
          refine zQ_goto zp_191 rfl (t := 27) rfl ?_
          exact ((r7'.1 c8).1 c9)
        · refine zQ_seq 1 (pc' := 118) (L' := [some (.ref 58), some (.int x1), some (.int x2), some (.int x3), some (.int x4), some (.int (Int32.ofInt 0))]) (S' := [.ref 58]) (h' := h7) zp_191 rfl ?_
          refine zQ_cvI (M' := 157) (as := [.ref 58]) (S' := []) zp_191 rfl rfl zp_157 (Or.inl rfl) rfl rfl (zqm_imp ((r7'.1 c8).2 c9) (fun rv h10 r10 => zri_imp r10 (fun v10 r10' => ?_)))
          refine zQ_seq 4 (pc' := 126) (L' := [some (.ref 58), some (.int x1), some (.int x2), some (.int x3), some (.int x4), some (.int (Int32.ofInt 0))]) (S' := [.int (v10 &&& (x4 ^^^ (Int32.ofInt (-1))))]) (h' := h10) zp_191 rfl ?_
          refine zQ_if zp_191 rfl (t := 133) rfl (i := (v10 &&& (x4 ^^^ (Int32.ofInt (-1)))).toInt) rfl (fun c11 => ?_) (fun c11 => ?_)
          · refine zQ_seq 3 (pc' := 138) (L' := [some (.ref 58), some (.int x1), some (.int x2), some (.int (x3 + Int32.ofInt 1)), some (.int x4), some (.int (Int32.ofInt 0))]) (S' := []) (h' := h10) zp_191 rfl ?_
            refine zQ_goto zp_191 rfl (t := 27) rfl ?_
            exact (r10'.1 c11)
          · refine zQ_seq 1 (pc' := 130) (L' := [some (.ref 58), some (.int x1), some (.int x2), some (.int x3), some (.int x4), some (.int (Int32.ofInt 0))]) (S' := [.int x3]) (h' := h10) zp_191 rfl ?_
            refine zQ_goto zp_191 rfl (t := 134) rfl ?_
            refine zQ_seq 2 (pc' := 138) (L' := [some (.ref 58), some (.int x1), some (.int x3), some (.int (x3 + Int32.ofInt 1)), some (.int x4), some (.int (Int32.ofInt 0))]) (S' := []) (h' := h10) zp_191 rfl ?_
            refine zQ_goto zp_191 rfl (t := 27) rfl ?_
            exact (r10'.2 c11)
      · refine zQ_seq 1 (pc' := 106) (L' := [some (.ref 58), some (.int x1), some (.int x2), some (.int x3), some (.int x4), some (.int x5)]) (S' := [.int (Int32.ofInt 1)]) (h' := h7) zp_191 rfl ?_
        refine zQ_goto zp_191 rfl (t := 110) rfl ?_
        refine zQ_seq 2 (pc' := 114) (L' := [some (.ref 58), some (.int x1), some (.int x2), some (.int x3), some (.int x4), some (.int (Int32.ofInt 1))]) (S' := [.int (Int32.ofInt 1)]) (h' := h7) zp_191 rfl ?_
        refine zQ_if zp_191 rfl (t := 133) rfl (i := (1 : Int)) kc_1 (fun c12 => ?_) (fun c12 => ?_)
        · refine zQ_seq 3 (pc' := 138) (L' := [some (.ref 58), some (.int x1), some (.int x2), some (.int (x3 + Int32.ofInt 1)), some (.int x4), some (.int (Int32.ofInt 1))]) (S' := []) (h' := h7) zp_191 rfl ?_
          refine zQ_goto zp_191 rfl (t := 27) rfl ?_
          exact ((r7'.2 c8).1 c12)
        · refine zQ_seq 1 (pc' := 118) (L' := [some (.ref 58), some (.int x1), some (.int x2), some (.int x3), some (.int x4), some (.int (Int32.ofInt 1))]) (S' := [.ref 58]) (h' := h7) zp_191 rfl ?_
          refine zQ_cvI (M' := 157) (as := [.ref 58]) (S' := []) zp_191 rfl rfl zp_157 (Or.inl rfl) rfl rfl (zqm_imp ((r7'.2 c8).2 c12) (fun rv h13 r13 => zri_imp r13 (fun v13 r13' => ?_)))
          refine zQ_seq 4 (pc' := 126) (L' := [some (.ref 58), some (.int x1), some (.int x2), some (.int x3), some (.int x4), some (.int (Int32.ofInt 1))]) (S' := [.int (v13 &&& (x4 ^^^ (Int32.ofInt (-1))))]) (h' := h13) zp_191 rfl ?_
          refine zQ_if zp_191 rfl (t := 133) rfl (i := (v13 &&& (x4 ^^^ (Int32.ofInt (-1)))).toInt) rfl (fun c14 => ?_) (fun c14 => ?_)
          · refine zQ_seq 3 (pc' := 138) (L' := [some (.ref 58), some (.int x1), some (.int x2), some (.int (x3 + Int32.ofInt 1)), some (.int x4), some (.int (Int32.ofInt 1))]) (S' := []) (h' := h13) zp_191 rfl ?_
            refine zQ_goto zp_191 rfl (t := 27) rfl ?_
            exact (r13'.1 c14)
          · refine zQ_seq 1 (pc' := 130) (L' := [some (.ref 58), some (.int x1), some (.int x2), some (.int x3), some (.int x4), some (.int (Int32.ofInt 1))]) (S' := [.int x3]) (h' := h13) zp_191 rfl ?_
            refine zQ_goto zp_191 rfl (t := 134) rfl ?_
            refine zQ_seq 2 (pc' := 138) (L' := [some (.ref 58), some (.int x1), some (.int x3), some (.int (x3 + Int32.ofInt 1)), some (.int x4), some (.int (Int32.ofInt 1))]) (S' := []) (h' := h13) zp_191 rfl ?_
            refine zQ_goto zp_191 rfl (t := 27) rfl ?_
            exact (r13'.2 c14)
  · refine zQ_seq 3 (pc' := 63) (L' := [some (.ref 58), some (.int x1), some (.int x2), some (.int x3), some (.int x4), some (.int x5)]) (S' := [.int x5, .int x3, .int x4]) (h' := h) zp_191 rfl ?_
    refine zQ_csI (M' := 122) (as := [.int x3, .int x5]) (S' := [.int x4]) zp_191 rfl rfl rfl zp_122 (Or.inr rfl) rfl rfl (zqm_imp (H.2 c1) (fun rv h15 r15 => zri_imp r15 (fun v15 r15' => ?_)))
    refine zQ_if zp_191 rfl (t := 78) rfl (i := v15.toInt) rfl (fun c16 => ?_) (fun c16 => ?_)
    · refine zQ_seq 4 (pc' := 85) (L' := [some (.ref 58), some (.int x1), some (.int x2), some (.int x3), some (.int (x4 ||| (Int32.ofInt 0))), some (.int (x5 + Int32.ofInt 1))]) (S' := []) (h' := h15) zp_191 rfl ?_
      refine zQ_goto zp_191 rfl (t := 46) rfl ?_
      exact (r15'.1 c16)
    · refine zQ_seq 2 (pc' := 72) (L' := [some (.ref 58), some (.int x1), some (.int x2), some (.int x3), some (.int x4), some (.int x5)]) (S' := [.int x5, .ref 58, .int x4]) (h' := h15) zp_191 rfl ?_
      refine zQ_cvI (M' := 162) (as := [.ref 58, .int x5]) (S' := [.int x4]) zp_191 rfl rfl zp_162 (Or.inl rfl) rfl rfl (zqm_imp (r15'.2 c16) (fun rv h17 r17 => zri_imp r17 (fun v17 r17' => ?_)))
      refine zQ_goto zp_191 rfl (t := 79) rfl ?_
      refine zQ_seq 3 (pc' := 85) (L' := [some (.ref 58), some (.int x1), some (.int x2), some (.int x3), some (.int (x4 ||| v17)), some (.int (x5 + Int32.ofInt 1))]) (S' := []) (h' := h17) zp_191 rfl ?_
      refine zQ_goto zp_191 rfl (t := 46) rfl ?_
      exact r17'
theorem s_192 {h : zH} {Q : Option Value → zH → Prop} (a1 : Int32) (H : (∀ n, zqm 150 [.ref 58] h (fun rv h1 => zri rv (fun v1 => ((¬ v1.toInt = 0 → zqm 121 [.int a1, .int (Int32.ofInt 0), .int (Int32.ofInt 3)] h1 (fun rv h3 => zri rv (fun v3 => ((¬ v3.toInt = 0 → zQ n 192 24 [some (.ref 58), some (.int a1), some (.int (Int32.ofInt 0)), none, none] [] h3 Q) ∧ (¬ (¬ v3.toInt = 0) → Q (some (.int (-1000001 : Int32))) h3))))) ∧ (¬ (¬ v1.toInt = 0) → Q (some (.int (-1000002 : Int32))) h1)))))) : zqm 192 [.ref 58, .int a1] h Q := by
  refine zqm_of zp_192 (fun n => ?_)
  have H := H n
  show zQ n 192 0 [some (.ref 58), some (.int a1), none, none, none] [] h Q
  refine zQ_seq 1 (pc' := 1) (L' := [some (.ref 58), some (.int a1), none, none, none]) (S' := [.ref 58]) (h' := h) zp_192 rfl ?_
  refine zQ_cvI (M' := 150) (as := [.ref 58]) (S' := []) zp_192 rfl rfl zp_150 (Or.inr rfl) rfl rfl (zqm_imp H (fun rv h1 r1 => zri_imp r1 (fun v1 r1' => ?_)))
  refine zQ_if zp_192 rfl (t := 10) rfl (i := v1.toInt) rfl (fun c2 => ?_) (fun c2 => ?_)
  · refine zQ_seq 3 (pc' := 13) (L' := [some (.ref 58), some (.int a1), none, none, none]) (S' := [.int (Int32.ofInt 3), .int (Int32.ofInt 0), .int a1]) (h' := h1) zp_192 rfl ?_
    refine zQ_csI (M' := 121) (as := [.int a1, .int (Int32.ofInt 0), .int (Int32.ofInt 3)]) (S' := []) zp_192 rfl rfl rfl zp_121 (Or.inr rfl) rfl rfl (zqm_imp (r1'.1 c2) (fun rv h3 r3 => zri_imp r3 (fun v3 r3' => ?_)))
    refine zQ_if zp_192 rfl (t := 22) rfl (i := v3.toInt) rfl (fun c4 => ?_) (fun c4 => ?_)
    · refine zQ_seq 2 (pc' := 24) (L' := [some (.ref 58), some (.int a1), some (.int (Int32.ofInt 0)), none, none]) (S' := []) (h' := h3) zp_192 rfl ?_
      exact (r3'.1 c4)
    · refine zQ_seq 1 (pc' := 21) (L' := [some (.ref 58), some (.int a1), none, none, none]) (S' := [.int (-1000001 : Int32)]) (h' := h3) zp_192 rfl ?_
      exact zQ_retI zp_192 rfl (r3'.2 c4)
  · refine zQ_seq 1 (pc' := 9) (L' := [some (.ref 58), some (.int a1), none, none, none]) (S' := [.int (-1000002 : Int32)]) (h' := h1) zp_192 rfl ?_
    exact zQ_retI zp_192 rfl (r1'.2 c2)
theorem s_192_24 {n : Nat} {h : zH} {Q : Option Value → zH → Prop} (x1 : Int32) (x2 : Int32) (o3 : Option Value) (o4 : Option Value) (H : (((h.1 64 57).toInt ≤ x2.toInt → Q (some (.int (-1000000 : Int32))) h) ∧ (¬ ((h.1 64 57).toInt ≤ x2.toInt) → zQ n 192 40 [some (.ref 58), some (.int x1), some (.int x2), some (.int (Int32.ofInt 0)), some (.int (Int32.ofInt 0))] [] h Q))) : zQ (n + 1) 192 24 [some (.ref 58), some (.int x1), some (.int x2), o3, o4] [] h Q := by
  refine zQ_seqL 3 (pc' := 31) (L' := [some (.ref 58), some (.int x1), some (.int x2), o3, o4]) (S' := [.int (Int32.ofInt 57), .ref 64, .int x2]) (h' := h) zp_192 rfl ?_
  refine zQ_ialk 57 (N := 62) (f := h.1 64) zp_192 rfl rfl kc_57 ?_
  refine zQ_ic zp_192 rfl (t := 113) rfl (i := x2.toInt) (j := (h.1 64 57).toInt) rfl rfl (fun c1 => ?_) (fun c1 => ?_)
  · refine zQ_seq 1 (pc' := 115) (L' := [some (.ref 58), some (.int x1), some (.int x2), o3, o4]) (S' := [.int (-1000000 : Int32)]) (h' := h) zp_192 rfl ?_
    exact zQ_retI zp_192 rfl (H.1 c1)
  · refine zQ_seq 4 (pc' := 40) (L' := [some (.ref 58), some (.int x1), some (.int x2), some (.int (Int32.ofInt 0)), some (.int (Int32.ofInt 0))]) (S' := []) (h' := h) zp_192 rfl ?_
    exact (H.2 c1)
theorem s_192_40 {n : Nat} {h : zH} {Q : Option Value → zH → Prop} (x1 : Int32) (x2 : Int32) (x3 : Int32) (x4 : Int32) (H : (((h.1 64 57).toInt ≤ x4.toInt → ((¬ x3.toInt = x1.toInt → zQ n 192 24 [some (.ref 58), some (.int x1), some (.int (x2 + Int32.ofInt 1)), some (.int x3), some (.int x4)] [] h Q) ∧ (¬ (¬ x3.toInt = x1.toInt) → Q (some (.int x2)) h))) ∧ (¬ ((h.1 64 57).toInt ≤ x4.toInt) → zqm 165 [.ref 58, .int x4] h (fun rv h3 => zri rv (fun v3 => zqm 165 [.ref 58, .int x2] h3 (fun rv h4 => zri rv (fun v4 => ((v3.toInt < v4.toInt → zQ n 192 40 [some (.ref 58), some (.int x1), some (.int x2), some (.int (x3 + (Int32.ofInt 1))), some (.int (x4 + Int32.ofInt 1))] [] h4 Q) ∧ (¬ (v3.toInt < v4.toInt) → zqm 165 [.ref 58, .int x4] h4 (fun rv h6 => zri rv (fun v6 => zqm 165 [.ref 58, .int x2] h6 (fun rv h7 => zri rv (fun v7 => ((¬ v6.toInt = v7.toInt → zQ n 192 40 [some (.ref 58), some (.int x1), some (.int x2), some (.int (x3 + (Int32.ofInt 0))), some (.int (x4 + Int32.ofInt 1))] [] h7 Q) ∧ (¬ (¬ v6.toInt = v7.toInt) → ((x2.toInt ≤ x4.toInt → zQ n 192 40 [some (.ref 58), some (.int x1), some (.int x2), some (.int (x3 + (Int32.ofInt 0))), some (.int (x4 + Int32.ofInt 1))] [] h7 Q) ∧ (¬ (x2.toInt ≤ x4.toInt) → zQ n 192 40 [some (.ref 58), some (.int x1), some (.int x2), some (.int (x3 + (Int32.ofInt 1))), some (.int (x4 + Int32.ofInt 1))] [] h7 Q))))))))))))))))) : zQ (n + 1) 192 40 [some (.ref 58), some (.int x1), some (.int x2), some (.int x3), some (.int x4)] [] h Q := by
  refine zQ_seqL 3 (pc' := 48) (L' := [some (.ref 58), some (.int x1), some (.int x2), some (.int x3), some (.int x4)]) (S' := [.int (Int32.ofInt 57), .ref 64, .int x4]) (h' := h) zp_192 rfl ?_
  refine zQ_ialk 57 (N := 62) (f := h.1 64) zp_192 rfl rfl kc_57 ?_
  refine zQ_ic zp_192 rfl (t := 100) rfl (i := x4.toInt) (j := (h.1 64 57).toInt) rfl rfl (fun c1 => ?_) (fun c1 => ?_)
  · refine zQ_seq 2 (pc' := 102) (L' := [some (.ref 58), some (.int x1), some (.int x2), some (.int x3), some (.int x4)]) (S' := [.int x1, .int x3]) (h' := h) zp_192 rfl ?_
    refine zQ_ic zp_192 rfl (t := 107) rfl (i := x3.toInt) (j := x1.toInt) rfl rfl (fun c2 => ?_) (fun c2 => ?_)
    · refine zQ_seq 1 (pc' := 110) (L' := [some (.ref 58), some (.int x1), some (.int (x2 + Int32.ofInt 1)), some (.int x3), some (.int x4)]) (S' := []) (h' := h) zp_192 rfl ?_
      refine zQ_goto zp_192 rfl (t := 24) rfl ?_
      exact ((H.1 c1).1 c2)
    · refine zQ_seq 1 (pc' := 106) (L' := [some (.ref 58), some (.int x1), some (.int x2), some (.int x3), some (.int x4)]) (S' := [.int x2]) (h' := h) zp_192 rfl ?_
      exact zQ_retI zp_192 rfl ((H.1 c1).2 c2)
  · refine zQ_seq 3 (pc' := 56) (L' := [some (.ref 58), some (.int x1), some (.int x2), some (.int x3), some (.int x4)]) (S' := [.int x4, .ref 58, .int x3]) (h' := h) zp_192 rfl ?_
    refine zQ_cvI (M' := 165) (as := [.ref 58, .int x4]) (S' := [.int x3]) zp_192 rfl rfl zp_165 (Or.inl rfl) rfl rfl (zqm_imp (H.2 c1) (fun rv h3 r3 => zri_imp r3 (fun v3 r3' => ?_)))
    refine zQ_seq 2 (pc' := 61) (L' := [some (.ref 58), some (.int x1), some (.int x2), some (.int x3), some (.int x4)]) (S' := [.int x2, .ref 58, .int v3, .int x3]) (h' := h3) zp_192 rfl ?_
    refine zQ_cvI (M' := 165) (as := [.ref 58, .int x2]) (S' := [.int v3, .int x3]) zp_192 rfl rfl zp_165 (Or.inl rfl) rfl rfl (zqm_imp r3' (fun rv h4 r4 => zri_imp r4 (fun v4 r4' => ?_)))
    refine zQ_ic zp_192 rfl (t := 87) rfl (i := v3.toInt) (j := v4.toInt) rfl rfl (fun c5 => ?_) (fun c5 => ?_)
    · refine zQ_seq 1 (pc' := 88) (L' := [some (.ref 58), some (.int x1), some (.int x2), some (.int x3), some (.int x4)]) (S' := [.int (Int32.ofInt 1), .int x3]) (h' := h4) zp_192 rfl ?_
      refine zQ_goto zp_192 rfl (t := 92) rfl ?_
      refine zQ_seq 3 (pc' := 97) (L' := [some (.ref 58), some (.int x1), some (.int x2), some (.int (x3 + (Int32.ofInt 1))), some (.int (x4 + Int32.ofInt 1))]) (S' := []) (h' := h4) zp_192 rfl ?_
      refine zQ_goto zp_192 rfl (t := 40) rfl ?_
      exact (r4'.1 c5)
    · refine zQ_seq 2 (pc' := 70) (L' := [some (.ref 58), some (.int x1), some (.int x2), some (.int x3), some (.int x4)]) (S' := [.int x4, .ref 58, .int x3]) (h' := h4) zp_192 rfl ?_
      refine zQ_cvI (M' := 165) (as := [.ref 58, .int x4]) (S' := [.int x3]) zp_192 rfl rfl zp_165 (Or.inl rfl) rfl rfl (zqm_imp (r4'.2 c5) (fun rv h6 r6 => zri_imp r6 (fun v6 r6' => ?_)))
      refine zQ_seq 2 (pc' := 75) (L' := [some (.ref 58), some (.int x1), some (.int x2), some (.int x3), some (.int x4)]) (S' := [.int x2, .ref 58, .int v6, .int x3]) (h' := h6) zp_192 rfl ?_
      refine zQ_cvI (M' := 165) (as := [.ref 58, .int x2]) (S' := [.int v6, .int x3]) zp_192 rfl rfl zp_165 (Or.inl rfl) rfl rfl (zqm_imp r6' (fun rv h7 r7 => zri_imp r7 (fun v7 r7' => ?_)))
      refine zQ_ic zp_192 rfl (t := 91) rfl (i := v6.toInt) (j := v7.toInt) rfl rfl (fun c8 => ?_) (fun c8 => ?_)
      · refine zQ_seq 4 (pc' := 97) (L' := [some (.ref 58), some (.int x1), some (.int x2), some (.int (x3 + (Int32.ofInt 0))), some (.int (x4 + Int32.ofInt 1))]) (S' := []) (h' := h7) zp_192 rfl ?_
        refine zQ_goto zp_192 rfl (t := 40) rfl ?_
        exact (r7'.1 c8)
      · refine zQ_seq 2 (pc' := 84) (L' := [some (.ref 58), some (.int x1), some (.int x2), some (.int x3), some (.int x4)]) (S' := [.int x2, .int x4, .int x3]) (h' := h7) zp_192 rfl ?_
        refine zQ_ic zp_192 rfl (t := 91) rfl (i := x4.toInt) (j := x2.toInt) rfl rfl (fun c9 => ?_) (fun c9 => ?_)
        · refine zQ_seq 4 (pc' := 97) (L' := [some (.ref 58), some (.int x1), some (.int x2), some (.int (x3 + (Int32.ofInt 0))), some (.int (x4 + Int32.ofInt 1))]) (S' := []) (h' := h7) zp_192 rfl ?_
          refine zQ_goto zp_192 rfl (t := 40) rfl ?_
          exact ((r7'.2 c8).1 c9)
        · refine zQ_seq 1 (pc' := 88) (L' := [some (.ref 58), some (.int x1), some (.int x2), some (.int x3), some (.int x4)]) (S' := [.int (Int32.ofInt 1), .int x3]) (h' := h7) zp_192 rfl ?_
          refine zQ_goto zp_192 rfl (t := 92) rfl ?_
          refine zQ_seq 3 (pc' := 97) (L' := [some (.ref 58), some (.int x1), some (.int x2), some (.int (x3 + (Int32.ofInt 1))), some (.int (x4 + Int32.ofInt 1))]) (S' := []) (h' := h7) zp_192 rfl ?_
          refine zQ_goto zp_192 rfl (t := 40) rfl ?_
          exact ((r7'.2 c8).2 c9)
theorem s_193 {h : zH} {Q : Option Value → zH → Prop} (a1 : Int32) (H : (∀ n, zqm 150 [.ref 58] h (fun rv h1 => zri rv (fun v1 => ((¬ v1.toInt = 0 → zqm 121 [.int a1, .int (Int32.ofInt 0), .int (Int32.ofInt 1)] h1 (fun rv h3 => zri rv (fun v3 => ((¬ v3.toInt = 0 → zqm 179 [.ref 58, .ref 64, .ref 67] h3 (fun _ h5 => zQ n 193 36 [some (.ref 58), some (.int a1), some (.int (Int32.ofInt 0)), none] [] h5 Q)) ∧ (¬ (¬ v3.toInt = 0) → Q (some (.int (-1000001 : Int32))) h3))))) ∧ (¬ (¬ v1.toInt = 0) → Q (some (.int (-1000002 : Int32))) h1)))))) : zqm 193 [.ref 58, .int a1] h Q := by
  refine zqm_of zp_193 (fun n => ?_)
  have H := H n
  show zQ n 193 0 [some (.ref 58), some (.int a1), none, none] [] h Q
  refine zQ_seq 1 (pc' := 1) (L' := [some (.ref 58), some (.int a1), none, none]) (S' := [.ref 58]) (h' := h) zp_193 rfl ?_
  refine zQ_cvI (M' := 150) (as := [.ref 58]) (S' := []) zp_193 rfl rfl zp_150 (Or.inr rfl) rfl rfl (zqm_imp H (fun rv h1 r1 => zri_imp r1 (fun v1 r1' => ?_)))
  refine zQ_if zp_193 rfl (t := 10) rfl (i := v1.toInt) rfl (fun c2 => ?_) (fun c2 => ?_)
  · refine zQ_seq 3 (pc' := 13) (L' := [some (.ref 58), some (.int a1), none, none]) (S' := [.int (Int32.ofInt 1), .int (Int32.ofInt 0), .int a1]) (h' := h1) zp_193 rfl ?_
    refine zQ_csI (M' := 121) (as := [.int a1, .int (Int32.ofInt 0), .int (Int32.ofInt 1)]) (S' := []) zp_193 rfl rfl rfl zp_121 (Or.inr rfl) rfl rfl (zqm_imp (r1'.1 c2) (fun rv h3 r3 => zri_imp r3 (fun v3 r3' => ?_)))
    refine zQ_if zp_193 rfl (t := 22) rfl (i := v3.toInt) rfl (fun c4 => ?_) (fun c4 => ?_)
    · refine zQ_seq 5 (pc' := 31) (L' := [some (.ref 58), some (.int a1), none, none]) (S' := [.ref 67, .ref 64, .ref 58]) (h' := h3) zp_193 rfl ?_
      refine zQ_cvV (M' := 179) (as := [.ref 58, .ref 64, .ref 67]) (S' := []) zp_193 rfl rfl zp_179 rfl rfl rfl (zqm_imp (r3'.1 c4) (fun rv h5 r5 => ?_))
      refine zQ_seq 2 (pc' := 36) (L' := [some (.ref 58), some (.int a1), some (.int (Int32.ofInt 0)), none]) (S' := []) (h' := h5) zp_193 rfl ?_
      exact r5
    · refine zQ_seq 1 (pc' := 21) (L' := [some (.ref 58), some (.int a1), none, none]) (S' := [.int (-1000001 : Int32)]) (h' := h3) zp_193 rfl ?_
      exact zQ_retI zp_193 rfl (r3'.2 c4)
  · refine zQ_seq 1 (pc' := 9) (L' := [some (.ref 58), some (.int a1), none, none]) (S' := [.int (-1000002 : Int32)]) (h' := h1) zp_193 rfl ?_
    exact zQ_retI zp_193 rfl (r1'.2 c2)
theorem s_193_36 {n : Nat} {h : zH} {Q : Option Value → zH → Prop} (x1 : Int32) (x2 : Int32) (H : zqm 156 [.ref 58, .ref 67] h (fun rv h1 => zri rv (fun v1 => zqm 166 [.ref 58, .int v1] h1 (fun rv h2 => zri rv (fun v2 => ((v2.toInt ≤ 0 → zqm 156 [.ref 58, .ref 67] h2 (fun rv h4 => zri rv (fun v4 => ((¬ x1.toInt = (1 : Int) → zqm 166 [.ref 58, .int v4] h4 (fun rv h6 => zri rv (fun v6 => ((¬ v6.toInt = 0 → Q (some (.int (-1000000 : Int32))) h6) ∧ (¬ (¬ v6.toInt = 0) → Q (some (.int x2)) h6))))) ∧ (¬ (¬ x1.toInt = (1 : Int)) → Q (some (.int v4)) h4))))) ∧ (¬ (v2.toInt ≤ 0) → (((40 : Int) ≤ x2.toInt → zqm 156 [.ref 58, .ref 67] h2 (fun rv h9 => zri rv (fun v9 => ((¬ x1.toInt = (1 : Int) → zqm 166 [.ref 58, .int v9] h9 (fun rv h11 => zri rv (fun v11 => ((¬ v11.toInt = 0 → Q (some (.int (-1000000 : Int32))) h11) ∧ (¬ (¬ v11.toInt = 0) → Q (some (.int x2)) h11))))) ∧ (¬ (¬ x1.toInt = (1 : Int)) → Q (some (.int v9)) h9))))) ∧ (¬ ((40 : Int) ≤ x2.toInt) → zqm 173 [.ref 67] h2 (fun _ h13 => zQ n 193 36 [some (.ref 58), some (.int x1), some (.int (x2 + Int32.ofInt 1)), none] [] h13 Q)))))))))) : zQ (n + 1) 193 36 [some (.ref 58), some (.int x1), some (.int x2), none] [] h Q := by
  refine zQ_seqL 3 (pc' := 42) (L' := [some (.ref 58), some (.int x1), some (.int x2), none]) (S' := [.ref 67, .ref 58, .ref 58]) (h' := h) zp_193 rfl ?_
  refine zQ_cvI (M' := 156) (as := [.ref 58, .ref 67]) (S' := [.ref 58]) zp_193 rfl rfl zp_156 (Or.inl rfl) rfl rfl (zqm_imp H (fun rv h1 r1 => zri_imp r1 (fun v1 r1' => ?_)))
  refine zQ_cvI (M' := 166) (as := [.ref 58, .int v1]) (S' := []) zp_193 rfl rfl zp_166 (Or.inl rfl) rfl rfl (zqm_imp r1' (fun rv h2 r2 => zri_imp r2 (fun v2 r2' => ?_)))
  refine zQ_if zp_193 rfl (t := 70) rfl (i := v2.toInt) rfl (fun c3 => ?_) (fun c3 => ?_)
  · refine zQ_seq 3 (pc' := 75) (L' := [some (.ref 58), some (.int x1), some (.int x2), none]) (S' := [.ref 67, .ref 58]) (h' := h2) zp_193 rfl ?_
    refine zQ_cvI (M' := 156) (as := [.ref 58, .ref 67]) (S' := []) zp_193 rfl rfl zp_156 (Or.inl rfl) rfl rfl (zqm_imp (r2'.1 c3) (fun rv h4 r4 => zri_imp r4 (fun v4 r4' => ?_)))
    refine zQ_seq 3 (pc' := 81) (L' := [some (.ref 58), some (.int x1), some (.int x2), some (.int v4)]) (S' := [.int (Int32.ofInt 1), .int x1]) (h' := h4) zp_193 rfl ?_
    refine zQ_ic zp_193 rfl (t := 88) rfl (i := x1.toInt) (j := (1 : Int)) rfl kc_1 (fun c5 => ?_) (fun c5 => ?_)
    · refine zQ_seq 2 (pc' := 90) (L' := [some (.ref 58), some (.int x1), some (.int x2), some (.int v4)]) (S' := [.int v4, .ref 58]) (h' := h4) zp_193 rfl ?_
      refine zQ_cvI (M' := 166) (as := [.ref 58, .int v4]) (S' := []) zp_193 rfl rfl zp_166 (Or.inl rfl) rfl rfl (zqm_imp (r4'.1 c5) (fun rv h6 r6 => zri_imp r6 (fun v6 r6' => ?_)))
      refine zQ_if zp_193 rfl (t := 100) rfl (i := v6.toInt) rfl (fun c7 => ?_) (fun c7 => ?_)
      · refine zQ_seq 1 (pc' := 102) (L' := [some (.ref 58), some (.int x1), some (.int x2), some (.int v4)]) (S' := [.int (-1000000 : Int32)]) (h' := h6) zp_193 rfl ?_
        exact zQ_retI zp_193 rfl (r6'.1 c7)
      · refine zQ_seq 1 (pc' := 97) (L' := [some (.ref 58), some (.int x1), some (.int x2), some (.int v4)]) (S' := [.int x2]) (h' := h6) zp_193 rfl ?_
        refine zQ_goto zp_193 rfl (t := 102) rfl ?_
        exact zQ_retI zp_193 rfl (r6'.2 c7)
    · refine zQ_seq 1 (pc' := 85) (L' := [some (.ref 58), some (.int x1), some (.int x2), some (.int v4)]) (S' := [.int v4]) (h' := h4) zp_193 rfl ?_
      refine zQ_goto zp_193 rfl (t := 102) rfl ?_
      exact zQ_retI zp_193 rfl (r4'.2 c5)
  · refine zQ_seq 2 (pc' := 54) (L' := [some (.ref 58), some (.int x1), some (.int x2), none]) (S' := [.int (Int32.ofInt 40), .int x2]) (h' := h2) zp_193 rfl ?_
    refine zQ_ic zp_193 rfl (t := 70) rfl (i := x2.toInt) (j := (40 : Int)) rfl kc_40 (fun c8 => ?_) (fun c8 => ?_)
    · refine zQ_seq 3 (pc' := 75) (L' := [some (.ref 58), some (.int x1), some (.int x2), none]) (S' := [.ref 67, .ref 58]) (h' := h2) zp_193 rfl ?_
      refine zQ_cvI (M' := 156) (as := [.ref 58, .ref 67]) (S' := []) zp_193 rfl rfl zp_156 (Or.inl rfl) rfl rfl (zqm_imp ((r2'.2 c3).1 c8) (fun rv h9 r9 => zri_imp r9 (fun v9 r9' => ?_)))
      refine zQ_seq 3 (pc' := 81) (L' := [some (.ref 58), some (.int x1), some (.int x2), some (.int v9)]) (S' := [.int (Int32.ofInt 1), .int x1]) (h' := h9) zp_193 rfl ?_
      refine zQ_ic zp_193 rfl (t := 88) rfl (i := x1.toInt) (j := (1 : Int)) rfl kc_1 (fun c10 => ?_) (fun c10 => ?_)
      · refine zQ_seq 2 (pc' := 90) (L' := [some (.ref 58), some (.int x1), some (.int x2), some (.int v9)]) (S' := [.int v9, .ref 58]) (h' := h9) zp_193 rfl ?_
        refine zQ_cvI (M' := 166) (as := [.ref 58, .int v9]) (S' := []) zp_193 rfl rfl zp_166 (Or.inl rfl) rfl rfl (zqm_imp (r9'.1 c10) (fun rv h11 r11 => zri_imp r11 (fun v11 r11' => ?_)))
        refine zQ_if zp_193 rfl (t := 100) rfl (i := v11.toInt) rfl (fun c12 => ?_) (fun c12 => ?_)
        · refine zQ_seq 1 (pc' := 102) (L' := [some (.ref 58), some (.int x1), some (.int x2), some (.int v9)]) (S' := [.int (-1000000 : Int32)]) (h' := h11) zp_193 rfl ?_
          exact zQ_retI zp_193 rfl (r11'.1 c12)
        · refine zQ_seq 1 (pc' := 97) (L' := [some (.ref 58), some (.int x1), some (.int x2), some (.int v9)]) (S' := [.int x2]) (h' := h11) zp_193 rfl ?_
          refine zQ_goto zp_193 rfl (t := 102) rfl ?_
          exact zQ_retI zp_193 rfl (r11'.2 c12)
      · refine zQ_seq 1 (pc' := 85) (L' := [some (.ref 58), some (.int x1), some (.int x2), some (.int v9)]) (S' := [.int v9]) (h' := h9) zp_193 rfl ?_
        refine zQ_goto zp_193 rfl (t := 102) rfl ?_
        exact zQ_retI zp_193 rfl (r9'.2 c10)
    · refine zQ_seq 2 (pc' := 61) (L' := [some (.ref 58), some (.int x1), some (.int x2), none]) (S' := [.ref 67]) (h' := h2) zp_193 rfl ?_
      refine zQ_csV (M' := 173) (as := [.ref 67]) (S' := []) zp_193 rfl rfl rfl zp_173 rfl rfl rfl (zqm_imp ((r2'.2 c3).2 c8) (fun rv h13 r13 => ?_))
      refine zQ_seq 1 (pc' := 67) (L' := [some (.ref 58), some (.int x1), some (.int (x2 + Int32.ofInt 1)), none]) (S' := []) (h' := h13) zp_193 rfl ?_
      refine zQ_goto zp_193 rfl (t := 36) rfl ?_
      exact r13
theorem s_194 {h : zH} {Q : Option Value → zH → Prop} (a0 : Int64) (a1 : Int64) (H : (∀ n, ((0 ≤ (lg_cmp a0 (Int64.ofNat 0)).toInt → zQ n 194 17 [some (.long a0), none, some (.long a1), none, some (.long a0), none, some (.long a1), none, none, none] [] h Q) ∧ (¬ (0 ≤ (lg_cmp a0 (Int64.ofNat 0)).toInt) → zQ n 194 17 [some (.long a0), none, some (.long a1), none, some (.long (-a0)), none, some (.long a1), none, none, none] [] h Q)))) : zqm 194 [.long a0, .long a1] h Q := by
  refine zqm_of zp_194 (fun n => ?_)
  have H := H n
  show zQ n 194 0 [some (.long a0), none, some (.long a1), none, none, none, none, none, none, none] [] h Q
  refine zQ_seq 3 (pc' := 3) (L' := [some (.long a0), none, some (.long a1), none, none, none, none, none, none, none]) (S' := [.int (lg_cmp a0 (Int64.ofNat 0))]) (h' := h) zp_194 rfl ?_
  refine zQ_if zp_194 rfl (t := 11) rfl (i := (lg_cmp a0 (Int64.ofNat 0)).toInt) rfl (fun c1 => ?_) (fun c1 => ?_)
  · refine zQ_seq 4 (pc' := 17) (L' := [some (.long a0), none, some (.long a1), none, some (.long a0), none, some (.long a1), none, none, none]) (S' := []) (h' := h) zp_194 rfl ?_
    exact (H.1 c1)
  · refine zQ_seq 2 (pc' := 8) (L' := [some (.long a0), none, some (.long a1), none, none, none, none, none, none, none]) (S' := [.long (-a0)]) (h' := h) zp_194 rfl ?_
    refine zQ_goto zp_194 rfl (t := 12) rfl ?_
    refine zQ_seq 3 (pc' := 17) (L' := [some (.long a0), none, some (.long a1), none, some (.long (-a0)), none, some (.long a1), none, none, none]) (S' := []) (h' := h) zp_194 rfl ?_
    exact (H.2 c1)
theorem s_194_17 {n : Nat} {h : zH} {Q : Option Value → zH → Prop} (y0 : Int64) (y2 : Int64) (y4 : Int64) (y6 : Int64) (o8 : Option Value) (H : (((lg_cmp y6 (Int64.ofNat 0)).toInt = 0 → Q (some (.long y4)) h) ∧ (¬ ((lg_cmp y6 (Int64.ofNat 0)).toInt = 0) → (¬ y6 = 0 → zQ n 194 17 [some (.long y0), none, some (.long y2), none, some (.long y6), none, some (.long (y4 - y4 / y6 * y6)), none, some (.long (y4 - y4 / y6 * y6)), none] [] h Q)))) : zQ (n + 1) 194 17 [some (.long y0), none, some (.long y2), none, some (.long y4), none, some (.long y6), none, o8, none] [] h Q := by
  refine zQ_seqL 2 (pc' := 21) (L' := [some (.long y0), none, some (.long y2), none, some (.long y4), none, some (.long y6), none, o8, none]) (S' := [.int (lg_cmp y6 (Int64.ofNat 0))]) (h' := h) zp_194 rfl ?_
  refine zQ_if zp_194 rfl (t := 42) rfl (i := (lg_cmp y6 (Int64.ofNat 0)).toInt) rfl (fun c1 => ?_) (fun c1 => ?_)
  · refine zQ_seq 1 (pc' := 44) (L' := [some (.long y0), none, some (.long y2), none, some (.long y4), none, some (.long y6), none, o8, none]) (S' := [.long y4]) (h' := h) zp_194 rfl ?_
    exact zQ_retL zp_194 rfl (H.1 c1)
  · refine zQ_seq 2 (pc' := 28) (L' := [some (.long y0), none, some (.long y2), none, some (.long y4), none, some (.long y6), none, o8, none]) (S' := [.long y6, .long y4]) (h' := h) zp_194 rfl ?_
    refine zQ_lrem zp_194 rfl (fun b2 => ?_)
    refine zQ_seq 5 (pc' := 39) (L' := [some (.long y0), none, some (.long y2), none, some (.long y6), none, some (.long (y4 - y4 / y6 * y6)), none, some (.long (y4 - y4 / y6 * y6)), none]) (S' := []) (h' := h) zp_194 rfl ?_
    refine zQ_goto zp_194 rfl (t := 17) rfl ?_
    exact ((H.2 c1) b2)
theorem s_195 {h : zH} {Q : Option Value → zH → Prop} (a1 : Int32) (a2 : Int32) (a3 : Int32) (a4 : Int32) (H : (∀ n, zqm 150 [.ref 58] h (fun rv h1 => zri rv (fun v1 => ((¬ v1.toInt = 0 → zqm 151 [.int a1] h1 (fun rv h3 => zri rv (fun v3 => ((v3.toInt = 0 → Q (some (.long (-1000001 : Int64))) h3) ∧ (¬ (v3.toInt = 0) → zqm 121 [.int a2, .int (Int32.ofInt 0), .int (Int32.ofInt 10)] h3 (fun rv h5 => zri rv (fun v5 => ((v5.toInt = 0 → Q (some (.long (-1000001 : Int64))) h5) ∧ (¬ (v5.toInt = 0) → zqm 121 [.int a3, .int (Int32.ofInt 0), .int (Int32.ofInt 6)] h5 (fun rv h7 => zri rv (fun v7 => ((v7.toInt = 0 → Q (some (.long (-1000001 : Int64))) h7) ∧ (¬ (v7.toInt = 0) → zqm 121 [.int a4, .int (Int32.ofInt 0), .int (Int32.ofInt 1)] h7 (fun rv h9 => zri rv (fun v9 => ((¬ v9.toInt = 0 → zQ n 195 64 [some (.ref 58), some (.int a1), some (.int a2), some (.int a3), some (.int a4), some (.ref 71), some (.long (Int64.ofNat 1)), none, some (.int (Int32.ofInt 0)), none, none, none, none, none] [] h9 Q) ∧ (¬ (¬ v9.toInt = 0) → Q (some (.long (-1000001 : Int64))) h9))))))))))))))))) ∧ (¬ (¬ v1.toInt = 0) → Q (some (.long (-1000002 : Int64))) h1)))))) : zqm 195 [.ref 58, .int a1, .int a2, .int a3, .int a4] h Q := by
  refine zqm_of zp_195 (fun n => ?_)
  have H := H n
  show zQ n 195 0 [some (.ref 58), some (.int a1), some (.int a2), some (.int a3), some (.int a4), none, none, none, none, none, none, none, none, none] [] h Q
  refine zQ_seq 1 (pc' := 1) (L' := [some (.ref 58), some (.int a1), some (.int a2), some (.int a3), some (.int a4), none, none, none, none, none, none, none, none, none]) (S' := [.ref 58]) (h' := h) zp_195 rfl ?_
  refine zQ_cvI (M' := 150) (as := [.ref 58]) (S' := []) zp_195 rfl rfl zp_150 (Or.inr rfl) rfl rfl (zqm_imp H (fun rv h1 r1 => zri_imp r1 (fun v1 r1' => ?_)))
  refine zQ_if zp_195 rfl (t := 11) rfl (i := v1.toInt) rfl (fun c2 => ?_) (fun c2 => ?_)
  · refine zQ_seq 1 (pc' := 12) (L' := [some (.ref 58), some (.int a1), some (.int a2), some (.int a3), some (.int a4), none, none, none, none, none, none, none, none, none]) (S' := [.int a1]) (h' := h1) zp_195 rfl ?_
    refine zQ_csI (M' := 151) (as := [.int a1]) (S' := []) zp_195 rfl rfl rfl zp_151 (Or.inr rfl) rfl rfl (zqm_imp (r1'.1 c2) (fun rv h3 r3 => zri_imp r3 (fun v3 r3' => ?_)))
    refine zQ_if zp_195 rfl (t := 48) rfl (i := v3.toInt) rfl (fun c4 => ?_) (fun c4 => ?_)
    · refine zQ_seq 1 (pc' := 51) (L' := [some (.ref 58), some (.int a1), some (.int a2), some (.int a3), some (.int a4), none, none, none, none, none, none, none, none, none]) (S' := [.long (-1000001 : Int64)]) (h' := h3) zp_195 rfl ?_
      exact zQ_retL zp_195 rfl (r3'.1 c4)
    · refine zQ_seq 3 (pc' := 22) (L' := [some (.ref 58), some (.int a1), some (.int a2), some (.int a3), some (.int a4), none, none, none, none, none, none, none, none, none]) (S' := [.int (Int32.ofInt 10), .int (Int32.ofInt 0), .int a2]) (h' := h3) zp_195 rfl ?_
      refine zQ_csI (M' := 121) (as := [.int a2, .int (Int32.ofInt 0), .int (Int32.ofInt 10)]) (S' := []) zp_195 rfl rfl rfl zp_121 (Or.inr rfl) rfl rfl (zqm_imp (r3'.2 c4) (fun rv h5 r5 => zri_imp r5 (fun v5 r5' => ?_)))
      refine zQ_if zp_195 rfl (t := 48) rfl (i := v5.toInt) rfl (fun c6 => ?_) (fun c6 => ?_)
      · refine zQ_seq 1 (pc' := 51) (L' := [some (.ref 58), some (.int a1), some (.int a2), some (.int a3), some (.int a4), none, none, none, none, none, none, none, none, none]) (S' := [.long (-1000001 : Int64)]) (h' := h5) zp_195 rfl ?_
        exact zQ_retL zp_195 rfl (r5'.1 c6)
      · refine zQ_seq 3 (pc' := 32) (L' := [some (.ref 58), some (.int a1), some (.int a2), some (.int a3), some (.int a4), none, none, none, none, none, none, none, none, none]) (S' := [.int (Int32.ofInt 6), .int (Int32.ofInt 0), .int a3]) (h' := h5) zp_195 rfl ?_
        refine zQ_csI (M' := 121) (as := [.int a3, .int (Int32.ofInt 0), .int (Int32.ofInt 6)]) (S' := []) zp_195 rfl rfl rfl zp_121 (Or.inr rfl) rfl rfl (zqm_imp (r5'.2 c6) (fun rv h7 r7 => zri_imp r7 (fun v7 r7' => ?_)))
        refine zQ_if zp_195 rfl (t := 48) rfl (i := v7.toInt) rfl (fun c8 => ?_) (fun c8 => ?_)
        · refine zQ_seq 1 (pc' := 51) (L' := [some (.ref 58), some (.int a1), some (.int a2), some (.int a3), some (.int a4), none, none, none, none, none, none, none, none, none]) (S' := [.long (-1000001 : Int64)]) (h' := h7) zp_195 rfl ?_
          exact zQ_retL zp_195 rfl (r7'.1 c8)
        · refine zQ_seq 3 (pc' := 42) (L' := [some (.ref 58), some (.int a1), some (.int a2), some (.int a3), some (.int a4), none, none, none, none, none, none, none, none, none]) (S' := [.int (Int32.ofInt 1), .int (Int32.ofInt 0), .int a4]) (h' := h7) zp_195 rfl ?_
          refine zQ_csI (M' := 121) (as := [.int a4, .int (Int32.ofInt 0), .int (Int32.ofInt 1)]) (S' := []) zp_195 rfl rfl rfl zp_121 (Or.inr rfl) rfl rfl (zqm_imp (r7'.2 c8) (fun rv h9 r9 => zri_imp r9 (fun v9 r9' => ?_)))
          refine zQ_if zp_195 rfl (t := 52) rfl (i := v9.toInt) rfl (fun c10 => ?_) (fun c10 => ?_)
          · refine zQ_seq 7 (pc' := 64) (L' := [some (.ref 58), some (.int a1), some (.int a2), some (.int a3), some (.int a4), some (.ref 71), some (.long (Int64.ofNat 1)), none, some (.int (Int32.ofInt 0)), none, none, none, none, none]) (S' := []) (h' := h9) zp_195 rfl ?_
            exact (r9'.1 c10)
          · refine zQ_seq 1 (pc' := 51) (L' := [some (.ref 58), some (.int a1), some (.int a2), some (.int a3), some (.int a4), none, none, none, none, none, none, none, none, none]) (S' := [.long (-1000001 : Int64)]) (h' := h9) zp_195 rfl ?_
            exact zQ_retL zp_195 rfl (r9'.2 c10)
  · refine zQ_seq 1 (pc' := 10) (L' := [some (.ref 58), some (.int a1), some (.int a2), some (.int a3), some (.int a4), none, none, none, none, none, none, none, none, none]) (S' := [.long (-1000002 : Int64)]) (h' := h1) zp_195 rfl ?_
    exact zQ_retL zp_195 rfl (r1'.2 c2)
theorem s_195_64 {n : Nat} {h : zH} {Q : Option Value → zH → Prop} (x1 : Int32) (x2 : Int32) (x3 : Int32) (x4 : Int32) (y6 : Int64) (x8 : Int32) (H : (((4 : Int) ≤ x8.toInt → zQ n 195 102 [some (.ref 58), some (.int x1), some (.int x2), some (.int x3), some (.int x4), some (.ref 71), some (.long y6), none, some (.int (Int32.ofInt 0)), none, none, none, none, none] [] h Q) ∧ (¬ ((4 : Int) ≤ x8.toInt) → (0 ≤ ((Int32.ofInt 0) + x1).toInt → ((Int32.ofInt 0) + x1).toInt < 62 → ((¬ x8.toInt = (h.1 64 ((Int32.ofInt 0) + x1).toInt.toNat).toInt → (0 ≤ x8.toInt → x8.toInt < 4 → zQ n 195 64 [some (.ref 58), some (.int x1), some (.int x2), some (.int x3), some (.int x4), some (.ref 71), some (.long y6), none, some (.int (x8 + Int32.ofInt 1)), none, none, none, none, none] [] (zSetL h 71 x8.toInt.toNat (Int64.ofNat 0)) Q)) ∧ (¬ (¬ x8.toInt = (h.1 64 ((Int32.ofInt 0) + x1).toInt.toNat).toInt) → (0 ≤ x8.toInt → x8.toInt < 4 → zQ n 195 64 [some (.ref 58), some (.int x1), some (.int x2), some (.int x3), some (.int x4), some (.ref 71), some (.long y6), none, some (.int (x8 + Int32.ofInt 1)), none, none, none, none, none] [] (zSetL h 71 x8.toInt.toNat (Int64.ofNat 1)) Q))))))) : zQ (n + 1) 195 64 [some (.ref 58), some (.int x1), some (.int x2), some (.int x3), some (.int x4), some (.ref 71), some (.long y6), none, some (.int x8), none, none, none, none, none] [] h Q := by
  refine zQ_seqL 1 (pc' := 67) (L' := [some (.ref 58), some (.int x1), some (.int x2), some (.int x3), some (.int x4), some (.ref 71), some (.long y6), none, some (.int x8), none, none, none, none, none]) (S' := [.int (Int32.ofInt 4), .int x8]) (h' := h) zp_195 rfl ?_
  refine zQ_ic zp_195 rfl (t := 99) rfl (i := x8.toInt) (j := (4 : Int)) rfl kc_4 (fun c1 => ?_) (fun c1 => ?_)
  · refine zQ_seq 2 (pc' := 102) (L' := [some (.ref 58), some (.int x1), some (.int x2), some (.int x3), some (.int x4), some (.ref 71), some (.long y6), none, some (.int (Int32.ofInt 0)), none, none, none, none, none]) (S' := []) (h' := h) zp_195 rfl ?_
    exact (H.1 c1)
  · refine zQ_seq 8 (pc' := 83) (L' := [some (.ref 58), some (.int x1), some (.int x2), some (.int x3), some (.int x4), some (.ref 71), some (.long y6), none, some (.int x8), none, none, none, none, none]) (S' := [.int ((Int32.ofInt 0) + x1), .ref 64, .int x8, .int x8, .ref 71]) (h' := h) zp_195 rfl ?_
    refine zQ_ial (N := 62) (f := h.1 64) zp_195 rfl rfl rfl (fun b2 b2' => ?_)
    refine zQ_ic zp_195 rfl (t := 91) rfl (i := x8.toInt) (j := (h.1 64 ((Int32.ofInt 0) + x1).toInt.toNat).toInt) rfl rfl (fun c3 => ?_) (fun c3 => ?_)
    · refine zQ_seq 1 (pc' := 92) (L' := [some (.ref 58), some (.int x1), some (.int x2), some (.int x3), some (.int x4), some (.ref 71), some (.long y6), none, some (.int x8), none, none, none, none, none]) (S' := [.long (Int64.ofNat 0), .int x8, .ref 71]) (h' := h) zp_195 rfl ?_
      refine zQ_las (N := 4) zp_195 rfl rfl rfl (fun b4 b4' => ?_)
      refine zQ_seq 1 (pc' := 96) (L' := [some (.ref 58), some (.int x1), some (.int x2), some (.int x3), some (.int x4), some (.ref 71), some (.long y6), none, some (.int (x8 + Int32.ofInt 1)), none, none, none, none, none]) (S' := []) (h' := (zSetL h 71 x8.toInt.toNat (Int64.ofNat 0))) zp_195 rfl ?_
      refine zQ_goto zp_195 rfl (t := 64) rfl ?_
      exact ((((H.2 c1) b2 b2').1 c3) b4 b4')
    · refine zQ_seq 1 (pc' := 88) (L' := [some (.ref 58), some (.int x1), some (.int x2), some (.int x3), some (.int x4), some (.ref 71), some (.long y6), none, some (.int x8), none, none, none, none, none]) (S' := [.long (Int64.ofNat 1), .int x8, .ref 71]) (h' := h) zp_195 rfl ?_
      refine zQ_goto zp_195 rfl (t := 92) rfl ?_
      refine zQ_las (N := 4) zp_195 rfl rfl rfl (fun b5 b5' => ?_)
      refine zQ_seq 1 (pc' := 96) (L' := [some (.ref 58), some (.int x1), some (.int x2), some (.int x3), some (.int x4), some (.ref 71), some (.long y6), none, some (.int (x8 + Int32.ofInt 1)), none, none, none, none, none]) (S' := []) (h' := (zSetL h 71 x8.toInt.toNat (Int64.ofNat 1))) zp_195 rfl ?_
      refine zQ_goto zp_195 rfl (t := 64) rfl ?_
      exact ((((H.2 c1) b2 b2').2 c3) b5 b5')
theorem s_195_102 {n : Nat} {h : zH} {Q : Option Value → zH → Prop} (x1 : Int32) (x2 : Int32) (x3 : Int32) (x4 : Int32) (y6 : Int64) (x8 : Int32) (o9 : Option Value) (o11 : Option Value) (o12 : Option Value) (H : ((x3.toInt ≤ x8.toInt → (0 ≤ ((Int32.ofInt 15) + x1).toInt → ((Int32.ofInt 15) + x1).toInt < 62 → (0 ≤ (h.1 64 ((Int32.ofInt 15) + x1).toInt.toNat).toInt → (h.1 64 ((Int32.ofInt 15) + x1).toInt.toNat).toInt < 4 → zqm 194 [.long (h.2 71 (h.1 64 ((Int32.ofInt 15) + x1).toInt.toNat).toInt.toNat), .long y6] h (fun rv h4 => zrl rv (fun v4 => ((¬ x4.toInt = 0 → (¬ v4 = 0 → Q (some (.long (y6 / v4))) h4)) ∧ (¬ (¬ x4.toInt = 0) → (¬ v4 = 0 → Q (some (.long ((h.2 71 (h.1 64 ((Int32.ofInt 15) + x1).toInt.toNat).toInt.toNat) / v4))) h4)))))))) ∧ (¬ (x3.toInt ≤ x8.toInt) → zQ n 195 117 [some (.ref 58), some (.int x1), some (.int x2), some (.int x3), some (.int x4), some (.ref 71), some (.long y6), none, some (.int x8), some (.long (h.2 71 3)), none, some (.int (Int32.ofInt 3)), o12, none] [] h Q))) : zQ (n + 1) 195 102 [some (.ref 58), some (.int x1), some (.int x2), some (.int x3), some (.int x4), some (.ref 71), some (.long y6), none, some (.int x8), o9, none, o11, o12, none] [] h Q := by
  refine zQ_seqL 1 (pc' := 105) (L' := [some (.ref 58), some (.int x1), some (.int x2), some (.int x3), some (.int x4), some (.ref 71), some (.long y6), none, some (.int x8), o9, none, o11, o12, none]) (S' := [.int x3, .int x8]) (h' := h) zp_195 rfl ?_
  refine zQ_ic zp_195 rfl (t := 183) rfl (i := x8.toInt) (j := x3.toInt) rfl rfl (fun c1 => ?_) (fun c1 => ?_)
  · refine zQ_seq 6 (pc' := 193) (L' := [some (.ref 58), some (.int x1), some (.int x2), some (.int x3), some (.int x4), some (.ref 71), some (.long y6), none, some (.int x8), o9, none, o11, o12, none]) (S' := [.int ((Int32.ofInt 15) + x1), .ref 64, .ref 71]) (h' := h) zp_195 rfl ?_
    refine zQ_ial (N := 62) (f := h.1 64) zp_195 rfl rfl rfl (fun b2 b2' => ?_)
    refine zQ_lal (N := 4) zp_195 rfl rfl rfl (fun b3 b3' => ?_)
    refine zQ_seq 3 (pc' := 201) (L' := [some (.ref 58), some (.int x1), some (.int x2), some (.int x3), some (.int x4), some (.ref 71), some (.long y6), none, some (.long (h.2 71 (h.1 64 ((Int32.ofInt 15) + x1).toInt.toNat).toInt.toNat)), none, none, o11, o12, none]) (S' := [.long y6, .long (h.2 71 (h.1 64 ((Int32.ofInt 15) + x1).toInt.toNat).toInt.toNat)]) (h' := h) zp_195 rfl ?_
    refine zQ_csL (M' := 194) (as := [.long (h.2 71 (h.1 64 ((Int32.ofInt 15) + x1).toInt.toNat).toInt.toNat), .long y6]) (S' := []) zp_195 rfl rfl rfl zp_194 rfl rfl rfl (zqm_imp (((H.1 c1) b2 b2') b3 b3') (fun rv h4 r4 => zrl_imp r4 (fun v4 r4' => ?_)))
    refine zQ_seq 2 (pc' := 208) (L' := [some (.ref 58), some (.int x1), some (.int x2), some (.int x3), some (.int x4), some (.ref 71), some (.long y6), none, some (.long (h.2 71 (h.1 64 ((Int32.ofInt 15) + x1).toInt.toNat).toInt.toNat)), none, some (.long v4), none, o12, none]) (S' := [.int x4]) (h' := h4) zp_195 rfl ?_
    refine zQ_if zp_195 rfl (t := 219) rfl (i := x4.toInt) rfl (fun c5 => ?_) (fun c5 => ?_)
    · refine zQ_seq 2 (pc' := 223) (L' := [some (.ref 58), some (.int x1), some (.int x2), some (.int x3), some (.int x4), some (.ref 71), some (.long y6), none, some (.long (h.2 71 (h.1 64 ((Int32.ofInt 15) + x1).toInt.toNat).toInt.toNat)), none, some (.long v4), none, o12, none]) (S' := [.long v4, .long y6]) (h' := h4) zp_195 rfl ?_
      refine zQ_ldiv zp_195 rfl (fun b6 => ?_)
      exact zQ_retL zp_195 rfl ((r4'.1 c5) b6)
    · refine zQ_seq 2 (pc' := 215) (L' := [some (.ref 58), some (.int x1), some (.int x2), some (.int x3), some (.int x4), some (.ref 71), some (.long y6), none, some (.long (h.2 71 (h.1 64 ((Int32.ofInt 15) + x1).toInt.toNat).toInt.toNat)), none, some (.long v4), none, o12, none]) (S' := [.long v4, .long (h.2 71 (h.1 64 ((Int32.ofInt 15) + x1).toInt.toNat).toInt.toNat)]) (h' := h4) zp_195 rfl ?_
      refine zQ_ldiv zp_195 rfl (fun b7 => ?_)
      refine zQ_goto zp_195 rfl (t := 224) rfl ?_
      exact zQ_retL zp_195 rfl ((r4'.2 c5) b7)
  · refine zQ_seq 2 (pc' := 111) (L' := [some (.ref 58), some (.int x1), some (.int x2), some (.int x3), some (.int x4), some (.ref 71), some (.long y6), none, some (.int x8), o9, none, o11, o12, none]) (S' := [.int (Int32.ofInt 3), .ref 71]) (h' := h) zp_195 rfl ?_
    refine zQ_lalk 3 (N := 4) zp_195 rfl rfl kc_3 ?_
    refine zQ_seq 3 (pc' := 117) (L' := [some (.ref 58), some (.int x1), some (.int x2), some (.int x3), some (.int x4), some (.ref 71), some (.long y6), none, some (.int x8), some (.long (h.2 71 3)), none, some (.int (Int32.ofInt 3)), o12, none]) (S' := []) (h' := h) zp_195 rfl ?_
    exact (H.2 c1)
theorem s_195_117 {n : Nat} {h : zH} {Q : Option Value → zH → Prop} (x1 : Int32) (x2 : Int32) (x3 : Int32) (x4 : Int32) (y6 : Int64) (x8 : Int32) (y9 : Int64) (x11 : Int32) (o12 : Option Value) (H : ((x11.toInt < 0 → zQ n 195 102 [some (.ref 58), some (.int x1), some (.int x2), some (.int x3), some (.int x4), some (.ref 71), some (.long (y6 * (10 : Int64))), none, some (.int (x8 + Int32.ofInt 1)), some (.long y9), none, some (.int x11), o12, none] [] h Q) ∧ (¬ (x11.toInt < 0) → ((¬ x11.toInt = 0 → (0 ≤ (x11 - (Int32.ofInt 1)).toInt → (x11 - (Int32.ofInt 1)).toInt < 4 → (0 ≤ x11.toInt → x11.toInt < 4 → (0 ≤ x11.toInt → x11.toInt < 4 → zQ n 195 117 [some (.ref 58), some (.int x1), some (.int x2), some (.int x3), some (.int x4), some (.ref 71), some (.long y6), none, some (.int x8), some (.long y9), none, some (.int (x11 + Int32.ofInt (-1))), some (.long (h.2 71 (x11 - (Int32.ofInt 1)).toInt.toNat)), none] [] (zSetL h 71 x11.toInt.toNat (((h.2 71 x11.toInt.toNat) * (((Int32.ofInt 10) - x2).toInt64)) + ((h.2 71 (x11 - (Int32.ofInt 1)).toInt.toNat) * (x2.toInt64)))) Q)))) ∧ (¬ (¬ x11.toInt = 0) → (0 ≤ x11.toInt → x11.toInt < 4 → (0 ≤ x11.toInt → x11.toInt < 4 → zQ n 195 117 [some (.ref 58), some (.int x1), some (.int x2), some (.int x3), some (.int x4), some (.ref 71), some (.long y6), none, some (.int x8), some (.long y9), none, some (.int (x11 + Int32.ofInt (-1))), some (.long y9), none] [] (zSetL h 71 x11.toInt.toNat (((h.2 71 x11.toInt.toNat) * (((Int32.ofInt 10) - x2).toInt64)) + (y9 * (x2.toInt64)))) Q))))))) : zQ (n + 1) 195 117 [some (.ref 58), some (.int x1), some (.int x2), some (.int x3), some (.int x4), some (.ref 71), some (.long y6), none, some (.int x8), some (.long y9), none, some (.int x11), o12, none] [] h Q := by
  refine zQ_seqL 0 (pc' := 119) (L' := [some (.ref 58), some (.int x1), some (.int x2), some (.int x3), some (.int x4), some (.ref 71), some (.long y6), none, some (.int x8), some (.long y9), none, some (.int x11), o12, none]) (S' := [.int x11]) (h' := h) zp_195 rfl ?_
  refine zQ_if zp_195 rfl (t := 169) rfl (i := x11.toInt) rfl (fun c1 => ?_) (fun c1 => ?_)
  · refine zQ_seq 5 (pc' := 180) (L' := [some (.ref 58), some (.int x1), some (.int x2), some (.int x3), some (.int x4), some (.ref 71), some (.long (y6 * (10 : Int64))), none, some (.int (x8 + Int32.ofInt 1)), some (.long y9), none, some (.int x11), o12, none]) (S' := []) (h' := h) zp_195 rfl ?_
    refine zQ_goto zp_195 rfl (t := 102) rfl ?_
    exact (H.1 c1)
  · refine zQ_seq 1 (pc' := 124) (L' := [some (.ref 58), some (.int x1), some (.int x2), some (.int x3), some (.int x4), some (.ref 71), some (.long y6), none, some (.int x8), some (.long y9), none, some (.int x11), o12, none]) (S' := [.int x11]) (h' := h) zp_195 rfl ?_
    refine zQ_if zp_195 rfl (t := 132) rfl (i := x11.toInt) rfl (fun c2 => ?_) (fun c2 => ?_)
    · refine zQ_seq 4 (pc' := 138) (L' := [some (.ref 58), some (.int x1), some (.int x2), some (.int x3), some (.int x4), some (.ref 71), some (.long y6), none, some (.int x8), some (.long y9), none, some (.int x11), o12, none]) (S' := [.int (x11 - (Int32.ofInt 1)), .ref 71]) (h' := h) zp_195 rfl ?_
      refine zQ_lal (N := 4) zp_195 rfl rfl rfl (fun b3 b3' => ?_)
      refine zQ_seq 5 (pc' := 149) (L' := [some (.ref 58), some (.int x1), some (.int x2), some (.int x3), some (.int x4), some (.ref 71), some (.long y6), none, some (.int x8), some (.long y9), none, some (.int x11), some (.long (h.2 71 (x11 - (Int32.ofInt 1)).toInt.toNat)), none]) (S' := [.int x11, .ref 71, .int x11, .ref 71]) (h' := h) zp_195 rfl ?_
      refine zQ_lal (N := 4) zp_195 rfl rfl rfl (fun b4 b4' => ?_)
      refine zQ_seq 10 (pc' := 162) (L' := [some (.ref 58), some (.int x1), some (.int x2), some (.int x3), some (.int x4), some (.ref 71), some (.long y6), none, some (.int x8), some (.long y9), none, some (.int x11), some (.long (h.2 71 (x11 - (Int32.ofInt 1)).toInt.toNat)), none]) (S' := [.long (((h.2 71 x11.toInt.toNat) * (((Int32.ofInt 10) - x2).toInt64)) + ((h.2 71 (x11 - (Int32.ofInt 1)).toInt.toNat) * (x2.toInt64))), .int x11, .ref 71]) (h' := h) zp_195 rfl ?_
      refine zQ_las (N := 4) zp_195 rfl rfl rfl (fun b5 b5' => ?_)
      refine zQ_seq 1 (pc' := 166) (L' := [some (.ref 58), some (.int x1), some (.int x2), some (.int x3), some (.int x4), some (.ref 71), some (.long y6), none, some (.int x8), some (.long y9), none, some (.int (x11 + Int32.ofInt (-1))), some (.long (h.2 71 (x11 - (Int32.ofInt 1)).toInt.toNat)), none]) (S' := []) (h' := (zSetL h 71 x11.toInt.toNat (((h.2 71 x11.toInt.toNat) * (((Int32.ofInt 10) - x2).toInt64)) + ((h.2 71 (x11 - (Int32.ofInt 1)).toInt.toNat) * (x2.toInt64))))) zp_195 rfl ?_
      refine zQ_goto zp_195 rfl (t := 117) rfl ?_
      exact (((((H.2 c1).1 c2) b3 b3') b4 b4') b5 b5')
    · refine zQ_seq 1 (pc' := 129) (L' := [some (.ref 58), some (.int x1), some (.int x2), some (.int x3), some (.int x4), some (.ref 71), some (.long y6), none, some (.int x8), some (.long y9), none, some (.int x11), o12, none]) (S' := [.long y9]) (h' := h) zp_195 rfl ?_
      refine zQ_goto zp_195 rfl (t := 139) rfl ?_
      refine zQ_seq 5 (pc' := 149) (L' := [some (.ref 58), some (.int x1), some (.int x2), some (.int x3), some (.int x4), some (.ref 71), some (.long y6), none, some (.int x8), some (.long y9), none, some (.int x11), some (.long y9), none]) (S' := [.int x11, .ref 71, .int x11, .ref 71]) (h' := h) zp_195 rfl ?_
      refine zQ_lal (N := 4) zp_195 rfl rfl rfl (fun b6 b6' => ?_)
      refine zQ_seq 10 (pc' := 162) (L' := [some (.ref 58), some (.int x1), some (.int x2), some (.int x3), some (.int x4), some (.ref 71), some (.long y6), none, some (.int x8), some (.long y9), none, some (.int x11), some (.long y9), none]) (S' := [.long (((h.2 71 x11.toInt.toNat) * (((Int32.ofInt 10) - x2).toInt64)) + (y9 * (x2.toInt64))), .int x11, .ref 71]) (h' := h) zp_195 rfl ?_
      refine zQ_las (N := 4) zp_195 rfl rfl rfl (fun b7 b7' => ?_)
      refine zQ_seq 1 (pc' := 166) (L' := [some (.ref 58), some (.int x1), some (.int x2), some (.int x3), some (.int x4), some (.ref 71), some (.long y6), none, some (.int x8), some (.long y9), none, some (.int (x11 + Int32.ofInt (-1))), some (.long y9), none]) (S' := []) (h' := (zSetL h 71 x11.toInt.toNat (((h.2 71 x11.toInt.toNat) * (((Int32.ofInt 10) - x2).toInt64)) + (y9 * (x2.toInt64))))) zp_195 rfl ?_
      refine zQ_goto zp_195 rfl (t := 117) rfl ?_
      exact ((((H.2 c1).2 c2) b6 b6') b7 b7')
theorem s_196 {h : zH} {Q : Option Value → zH → Prop} (a1 : Int32) (a2 : Int32) (a3 : Int32) (H : (∀ n, zqm 121 [.int a3, .int (Int32.ofInt 0), .int (Int32.ofInt 1)] h (fun rv h1 => zri rv (fun v1 => zqm 186 [.ref 58, .int a1, .int a2, .int v1, .int (Int32.ofInt 4)] h1 (fun rv h2 => zri rv (fun v2 => ((0 ≤ v2.toInt → zQ n 196 35 [some (.ref 58), some (.int a1), some (.int a2), some (.int a3), some (.int (h.1 58 3)), some (.int v2), some (.int (Int32.ofInt 1)), some (.int (Int32.ofInt 0)), none, none, none, none, none, none, none, none, none, none, none] [] h2 Q) ∧ (¬ (0 ≤ v2.toInt) → Q (some (.int v2)) h2)))))))) : zqm 196 [.ref 58, .int a1, .int a2, .int a3] h Q := by
  refine zqm_of zp_196 (fun n => ?_)
  have H := H n
  show zQ n 196 0 [some (.ref 58), some (.int a1), some (.int a2), some (.int a3), none, none, none, none, none, none, none, none, none, none, none, none, none, none, none] [] h Q
  refine zQ_seq 9 (pc' := 12) (L' := [some (.ref 58), some (.int a1), some (.int a2), some (.int a3), some (.int (h.1 58 3)), none, none, none, none, none, none, none, none, none, none, none, none, none, none]) (S' := [.int (Int32.ofInt 1), .int (Int32.ofInt 0), .int a3, .int a2, .int a1, .ref 58]) (h' := h) zp_196 rfl ?_
  refine zQ_csI (M' := 121) (as := [.int a3, .int (Int32.ofInt 0), .int (Int32.ofInt 1)]) (S' := [.int a2, .int a1, .ref 58]) zp_196 rfl rfl rfl zp_121 (Or.inr rfl) rfl rfl (zqm_imp H (fun rv h1 r1 => zri_imp r1 (fun v1 r1' => ?_)))
  refine zQ_seq 1 (pc' := 16) (L' := [some (.ref 58), some (.int a1), some (.int a2), some (.int a3), some (.int (h.1 58 3)), none, none, none, none, none, none, none, none, none, none, none, none, none, none]) (S' := [.int (Int32.ofInt 4), .int v1, .int a2, .int a1, .ref 58]) (h' := h1) zp_196 rfl ?_
  refine zQ_cvI (M' := 186) (as := [.ref 58, .int a1, .int a2, .int v1, .int (Int32.ofInt 4)]) (S' := []) zp_196 rfl rfl zp_186 (Or.inl rfl) rfl rfl (zqm_imp r1' (fun rv h2 r2 => zri_imp r2 (fun v2 r2' => ?_)))
  refine zQ_seq 2 (pc' := 23) (L' := [some (.ref 58), some (.int a1), some (.int a2), some (.int a3), some (.int (h.1 58 3)), some (.int v2), none, none, none, none, none, none, none, none, none, none, none, none, none]) (S' := [.int v2]) (h' := h2) zp_196 rfl ?_
  refine zQ_if zp_196 rfl (t := 29) rfl (i := v2.toInt) rfl (fun c3 => ?_) (fun c3 => ?_)
  · refine zQ_seq 4 (pc' := 35) (L' := [some (.ref 58), some (.int a1), some (.int a2), some (.int a3), some (.int (h.1 58 3)), some (.int v2), some (.int (Int32.ofInt 1)), some (.int (Int32.ofInt 0)), none, none, none, none, none, none, none, none, none, none, none]) (S' := []) (h' := h2) zp_196 rfl ?_
    exact (r2'.1 c3)
  · refine zQ_seq 1 (pc' := 28) (L' := [some (.ref 58), some (.int a1), some (.int a2), some (.int a3), some (.int (h.1 58 3)), some (.int v2), none, none, none, none, none, none, none, none, none, none, none, none, none]) (S' := [.int v2]) (h' := h2) zp_196 rfl ?_
    exact zQ_retI zp_196 rfl (r2'.2 c3)
theorem s_196_35 {n : Nat} {h : zH} {Q : Option Value → zH → Prop} (x1 : Int32) (x2 : Int32) (x3 : Int32) (x4 : Int32) (x5 : Int32) (x6 : Int32) (x7 : Int32) (H : (((4 : Int) ≤ x7.toInt → ((¬ x6.toInt = 0 → (0 ≤ (h.1 58 18).toInt → (h.1 58 18).toInt < 320 → (0 ≤ ((h.1 58 18) + (Int32.ofInt 1)).toInt → ((h.1 58 18) + (Int32.ofInt 1)).toInt < 320 → (0 ≤ ((h.1 58 18) + (Int32.ofInt 2)).toInt → ((h.1 58 18) + (Int32.ofInt 2)).toInt < 320 → (0 ≤ ((h.1 58 18) + (Int32.ofInt 3)).toInt → ((h.1 58 18) + (Int32.ofInt 3)).toInt < 320 → zqm 198 [.int (h.1 61 (h.1 58 18).toInt.toNat), .int (h.1 61 ((h.1 58 18) + (Int32.ofInt 1)).toInt.toNat)] h (fun rv h7 => zri rv (fun v7 => zqm 198 [.int (h.1 61 ((h.1 58 18) + (Int32.ofInt 2)).toInt.toNat), .int (h.1 61 ((h.1 58 18) + (Int32.ofInt 3)).toInt.toNat)] h7 (fun rv h8 => zri rv (fun v8 => zqm 197 [.int v7, .int v8] h8 (fun rv h9 => zri rv (fun v9 => zqm 197 [.int (h.1 61 (h.1 58 18).toInt.toNat), .int (h.1 61 ((h.1 58 18) + (Int32.ofInt 2)).toInt.toNat)] h9 (fun rv h10 => zri rv (fun v10 => zqm 197 [.int (h.1 61 ((h.1 58 18) + (Int32.ofInt 1)).toInt.toNat), .int (h.1 61 ((h.1 58 18) + (Int32.ofInt 3)).toInt.toNat)] h10 (fun rv h11 => zri rv (fun v11 => zqm 198 [.int v10, .int v11] h11 (fun rv h12 => zri rv (fun v12 => ((v9.toInt = v12.toInt → zqm 194 [.long (v9.toInt64), .long (Int64.ofNat 1)] h12 (fun rv h14 => zrl rv (fun v14 => ((¬ x3.toInt = 0 → (¬ v14 = 0 → Q (some (.int (((Int64.ofNat 1) / v14).toInt32))) h14)) ∧ (¬ (¬ x3.toInt = 0) → (¬ v14 = 0 → Q (some (.int (((v9.toInt64) / v14).toInt32))) h14)))))) ∧ (¬ (v9.toInt = v12.toInt) → ((0 ≤ (lg_cmp (((((h.1 61 (h.1 58 18).toInt.toNat) + (h.1 61 ((h.1 58 18) + (Int32.ofInt 3)).toInt.toNat)) - (h.1 61 ((h.1 58 18) + (Int32.ofInt 1)).toInt.toNat)) - (h.1 61 ((h.1 58 18) + (Int32.ofInt 2)).toInt.toNat)).toInt64) (Int64.ofNat 0)).toInt → zqm 194 [.long ((((h.1 61 (h.1 58 18).toInt.toNat) * (h.1 61 ((h.1 58 18) + (Int32.ofInt 3)).toInt.toNat)) - ((h.1 61 ((h.1 58 18) + (Int32.ofInt 1)).toInt.toNat) * (h.1 61 ((h.1 58 18) + (Int32.ofInt 2)).toInt.toNat))).toInt64), .long (((((h.1 61 (h.1 58 18).toInt.toNat) + (h.1 61 ((h.1 58 18) + (Int32.ofInt 3)).toInt.toNat)) - (h.1 61 ((h.1 58 18) + (Int32.ofInt 1)).toInt.toNat)) - (h.1 61 ((h.1 58 18) + (Int32.ofInt 2)).toInt.toNat)).toInt64)] h12 (fun rv h19 => zrl rv (fun v19 => ((¬ x3.toInt = 0 → (¬ v19 = 0 → Q (some (.int (((((((h.1 61 (h.1 58 18).toInt.toNat) + (h.1 61 ((h.1 58 18) + (Int32.ofInt 3)).toInt.toNat)) - (h.1 61 ((h.1 58 18) + (Int32.ofInt 1)).toInt.toNat)) - (h.1 61 ((h.1 58 18) + (Int32.ofInt 2)).toInt.toNat)).toInt64) / v19).toInt32))) h19)) ∧ (¬ (¬ x3.toInt = 0) → (¬ v19 = 0 → Q (some (.int ((((((h.1 61 (h.1 58 18).toInt.toNat) * (h.1 61 ((h.1 58 18) + (Int32.ofInt 3)).toInt.toNat)) - ((h.1 61 ((h.1 58 18) + (Int32.ofInt 1)).toInt.toNat) * (h.1 61 ((h.1 58 18) + (Int32.ofInt 2)).toInt.toNat))).toInt64) / v19).toInt32))) h19)))))) ∧ (¬ (0 ≤ (lg_cmp (((((h.1 61 (h.1 58 18).toInt.toNat) + (h.1 61 ((h.1 58 18) + (Int32.ofInt 3)).toInt.toNat)) - (h.1 61 ((h.1 58 18) + (Int32.ofInt 1)).toInt.toNat)) - (h.1 61 ((h.1 58 18) + (Int32.ofInt 2)).toInt.toNat)).toInt64) (Int64.ofNat 0)).toInt) → zqm 194 [.long (-((((h.1 61 (h.1 58 18).toInt.toNat) * (h.1 61 ((h.1 58 18) + (Int32.ofInt 3)).toInt.toNat)) - ((h.1 61 ((h.1 58 18) + (Int32.ofInt 1)).toInt.toNat) * (h.1 61 ((h.1 58 18) + (Int32.ofInt 2)).toInt.toNat))).toInt64)), .long (-(((((h.1 61 (h.1 58 18).toInt.toNat) + (h.1 61 ((h.1 58 18) + (Int32.ofInt 3)).toInt.toNat)) - (h.1 61 ((h.1 58 18) + (Int32.ofInt 1)).toInt.toNat)) - (h.1 61 ((h.1 58 18) + (Int32.ofInt 2)).toInt.toNat)).toInt64))] h12 (fun rv h23 => zrl rv (fun v23 => ((¬ x3.toInt = 0 → (¬ v23 = 0 → Q (some (.int (((-(((((h.1 61 (h.1 58 18).toInt.toNat) + (h.1 61 ((h.1 58 18) + (Int32.ofInt 3)).toInt.toNat)) - (h.1 61 ((h.1 58 18) + (Int32.ofInt 1)).toInt.toNat)) - (h.1 61 ((h.1 58 18) + (Int32.ofInt 2)).toInt.toNat)).toInt64)) / v23).toInt32))) h23)) ∧ (¬ (¬ x3.toInt = 0) → (¬ v23 = 0 → Q (some (.int (((-((((h.1 61 (h.1 58 18).toInt.toNat) * (h.1 61 ((h.1 58 18) + (Int32.ofInt 3)).toInt.toNat)) - ((h.1 61 ((h.1 58 18) + (Int32.ofInt 1)).toInt.toNat) * (h.1 61 ((h.1 58 18) + (Int32.ofInt 2)).toInt.toNat))).toInt64)) / v23).toInt32))) h23)))))))))))))))))))))))))) ∧ (¬ (¬ x6.toInt = 0) → Q (some (.int (-1000001 : Int32))) (zSet h 58 3 x4)))) ∧ (¬ ((4 : Int) ≤ x7.toInt) → ((x6.toInt = 0 → zQ n 196 35 [some (.ref 58), some (.int x1), some (.int x2), some (.int x3), some (.int x4), some (.int x5), some (.int (Int32.ofInt 0)), some (.int (x7 + Int32.ofInt 1)), none, none, none, none, none, none, none, none, none, none, none] [] h Q) ∧ (¬ (x6.toInt = 0) → (0 ≤ ((h.1 58 18) + x7).toInt → ((h.1 58 18) + x7).toInt < 320 → zqm 121 [.int (h.1 61 ((h.1 58 18) + x7).toInt.toNat), .int (Int32.ofInt (-20)), .int (Int32.ofInt 20)] h (fun rv h29 => zri rv (fun v29 => ((v29.toInt = 0 → zQ n 196 35 [some (.ref 58), some (.int x1), some (.int x2), some (.int x3), some (.int x4), some (.int x5), some (.int (Int32.ofInt 0)), some (.int (x7 + Int32.ofInt 1)), none, none, none, none, none, none, none, none, none, none, none] [] h29 Q) ∧ (¬ (v29.toInt = 0) → zQ n 196 35 [some (.ref 58), some (.int x1), some (.int x2), some (.int x3), some (.int x4), some (.int x5), some (.int (Int32.ofInt 1)), some (.int (x7 + Int32.ofInt 1)), none, none, none, none, none, none, none, none, none, none, none] [] h29 Q)))))))))) : zQ (n + 1) 196 35 [some (.ref 58), some (.int x1), some (.int x2), some (.int x3), some (.int x4), some (.int x5), some (.int x6), some (.int x7), none, none, none, none, none, none, none, none, none, none, none] [] h Q := by
  refine zQ_seqL 1 (pc' := 38) (L' := [some (.ref 58), some (.int x1), some (.int x2), some (.int x3), some (.int x4), some (.int x5), some (.int x6), some (.int x7), none, none, none, none, none, none, none, none, none, none, none]) (S' := [.int (Int32.ofInt 4), .int x7]) (h' := h) zp_196 rfl ?_
  refine zQ_ic zp_196 rfl (t := 81) rfl (i := x7.toInt) (j := (4 : Int)) rfl kc_4 (fun c1 => ?_) (fun c1 => ?_)
  · refine zQ_seq 1 (pc' := 83) (L' := [some (.ref 58), some (.int x1), some (.int x2), some (.int x3), some (.int x4), some (.int x5), some (.int x6), some (.int x7), none, none, none, none, none, none, none, none, none, none, none]) (S' := [.int x6]) (h' := h) zp_196 rfl ?_
    refine zQ_if zp_196 rfl (t := 95) rfl (i := x6.toInt) rfl (fun c2 => ?_) (fun c2 => ?_)
    · refine zQ_seq 4 (pc' := 103) (L' := [some (.ref 58), some (.int x1), some (.int x2), some (.int x3), some (.int x4), some (.int x5), some (.int x6), some (.int x7), none, none, none, none, none, none, none, none, none, none, none]) (S' := [.int (h.1 58 18), .ref 61]) (h' := h) zp_196 rfl ?_
      refine zQ_ial (N := 320) (f := h.1 61) zp_196 rfl rfl rfl (fun b3 b3' => ?_)
      refine zQ_seq 7 (pc' := 116) (L' := [some (.ref 58), some (.int x1), some (.int x2), some (.int x3), some (.int x4), some (.int x5), some (.int x6), some (.int (h.1 61 (h.1 58 18).toInt.toNat)), none, none, none, none, none, none, none, none, none, none, none]) (S' := [.int ((h.1 58 18) + (Int32.ofInt 1)), .ref 61]) (h' := h) zp_196 rfl ?_
      refine zQ_ial (N := 320) (f := h.1 61) zp_196 rfl rfl rfl (fun b4 b4' => ?_)
      refine zQ_seq 7 (pc' := 129) (L' := [some (.ref 58), some (.int x1), some (.int x2), some (.int x3), some (.int x4), some (.int x5), some (.int x6), some (.int (h.1 61 (h.1 58 18).toInt.toNat)), some (.int (h.1 61 ((h.1 58 18) + (Int32.ofInt 1)).toInt.toNat)), none, none, none, none, none, none, none, none, none, none]) (S' := [.int ((h.1 58 18) + (Int32.ofInt 2)), .ref 61]) (h' := h) zp_196 rfl ?_
      refine zQ_ial (N := 320) (f := h.1 61) zp_196 rfl rfl rfl (fun b5 b5' => ?_)
      refine zQ_seq 7 (pc' := 142) (L' := [some (.ref 58), some (.int x1), some (.int x2), some (.int x3), some (.int x4), some (.int x5), some (.int x6), some (.int (h.1 61 (h.1 58 18).toInt.toNat)), some (.int (h.1 61 ((h.1 58 18) + (Int32.ofInt 1)).toInt.toNat)), some (.int (h.1 61 ((h.1 58 18) + (Int32.ofInt 2)).toInt.toNat)), none, none, none, none, none, none, none, none, none]) (S' := [.int ((h.1 58 18) + (Int32.ofInt 3)), .ref 61]) (h' := h) zp_196 rfl ?_
      refine zQ_ial (N := 320) (f := h.1 61) zp_196 rfl rfl rfl (fun b6 b6' => ?_)
      refine zQ_seq 3 (pc' := 149) (L' := [some (.ref 58), some (.int x1), some (.int x2), some (.int x3), some (.int x4), some (.int x5), some (.int x6), some (.int (h.1 61 (h.1 58 18).toInt.toNat)), some (.int (h.1 61 ((h.1 58 18) + (Int32.ofInt 1)).toInt.toNat)), some (.int (h.1 61 ((h.1 58 18) + (Int32.ofInt 2)).toInt.toNat)), some (.int (h.1 61 ((h.1 58 18) + (Int32.ofInt 3)).toInt.toNat)), none, none, none, none, none, none, none, none]) (S' := [.int (h.1 61 ((h.1 58 18) + (Int32.ofInt 1)).toInt.toNat), .int (h.1 61 (h.1 58 18).toInt.toNat)]) (h' := h) zp_196 rfl ?_
      refine zQ_csI (M' := 198) (as := [.int (h.1 61 (h.1 58 18).toInt.toNat), .int (h.1 61 ((h.1 58 18) + (Int32.ofInt 1)).toInt.toNat)]) (S' := []) zp_196 rfl rfl rfl zp_198 (Or.inl rfl) rfl rfl (zqm_imp ((((((H.1 c1).1 c2) b3 b3') b4 b4') b5 b5') b6 b6') (fun rv h7 r7 => zri_imp r7 (fun v7 r7' => ?_)))
      refine zQ_seq 2 (pc' := 156) (L' := [some (.ref 58), some (.int x1), some (.int x2), some (.int x3), some (.int x4), some (.int x5), some (.int x6), some (.int (h.1 61 (h.1 58 18).toInt.toNat)), some (.int (h.1 61 ((h.1 58 18) + (Int32.ofInt 1)).toInt.toNat)), some (.int (h.1 61 ((h.1 58 18) + (Int32.ofInt 2)).toInt.toNat)), some (.int (h.1 61 ((h.1 58 18) + (Int32.ofInt 3)).toInt.toNat)), none, none, none, none, none, none, none, none]) (S' := [.int (h.1 61 ((h.1 58 18) + (Int32.ofInt 3)).toInt.toNat), .int (h.1 61 ((h.1 58 18) + (Int32.ofInt 2)).toInt.toNat), .int v7]) (h' := h7) zp_196 rfl ?_
      refine zQ_csI (M' := 198) (as := [.int (h.1 61 ((h.1 58 18) + (Int32.ofInt 2)).toInt.toNat), .int (h.1 61 ((h.1 58 18) + (Int32.ofInt 3)).toInt.toNat)]) (S' := [.int v7]) zp_196 rfl rfl rfl zp_198 (Or.inl rfl) rfl rfl (zqm_imp r7' (fun rv h8 r8 => zri_imp r8 (fun v8 r8' => ?_)))
      refine zQ_csI (M' := 197) (as := [.int v7, .int v8]) (S' := []) zp_196 rfl rfl rfl zp_197 (Or.inl rfl) rfl rfl (zqm_imp r8' (fun rv h9 r9 => zri_imp r9 (fun v9 r9' => ?_)))
      refine zQ_seq 3 (pc' := 168) (L' := [some (.ref 58), some (.int x1), some (.int x2), some (.int x3), some (.int x4), some (.int x5), some (.int x6), some (.int (h.1 61 (h.1 58 18).toInt.toNat)), some (.int (h.1 61 ((h.1 58 18) + (Int32.ofInt 1)).toInt.toNat)), some (.int (h.1 61 ((h.1 58 18) + (Int32.ofInt 2)).toInt.toNat)), some (.int (h.1 61 ((h.1 58 18) + (Int32.ofInt 3)).toInt.toNat)), some (.int v9), none, none, none, none, none, none, none]) (S' := [.int (h.1 61 ((h.1 58 18) + (Int32.ofInt 2)).toInt.toNat), .int (h.1 61 (h.1 58 18).toInt.toNat)]) (h' := h9) zp_196 rfl ?_
      refine zQ_csI (M' := 197) (as := [.int (h.1 61 (h.1 58 18).toInt.toNat), .int (h.1 61 ((h.1 58 18) + (Int32.ofInt 2)).toInt.toNat)]) (S' := []) zp_196 rfl rfl rfl zp_197 (Or.inl rfl) rfl rfl (zqm_imp r9' (fun rv h10 r10 => zri_imp r10 (fun v10 r10' => ?_)))
      refine zQ_seq 2 (pc' := 175) (L' := [some (.ref 58), some (.int x1), some (.int x2), some (.int x3), some (.int x4), some (.int x5), some (.int x6), some (.int (h.1 61 (h.1 58 18).toInt.toNat)), some (.int (h.1 61 ((h.1 58 18) + (Int32.ofInt 1)).toInt.toNat)), some (.int (h.1 61 ((h.1 58 18) + (Int32.ofInt 2)).toInt.toNat)), some (.int (h.1 61 ((h.1 58 18) + (Int32.ofInt 3)).toInt.toNat)), some (.int v9), none, none, none, none, none, none, none]) (S' := [.int (h.1 61 ((h.1 58 18) + (Int32.ofInt 3)).toInt.toNat), .int (h.1 61 ((h.1 58 18) + (Int32.ofInt 1)).toInt.toNat), .int v10]) (h' := h10) zp_196 rfl ?_
      refine zQ_csI (M' := 197) (as := [.int (h.1 61 ((h.1 58 18) + (Int32.ofInt 1)).toInt.toNat), .int (h.1 61 ((h.1 58 18) + (Int32.ofInt 3)).toInt.toNat)]) (S' := [.int v10]) zp_196 rfl rfl rfl zp_197 (Or.inl rfl) rfl rfl (zqm_imp r10' (fun rv h11 r11 => zri_imp r11 (fun v11 r11' => ?_)))
      refine zQ_csI (M' := 198) (as := [.int v10, .int v11]) (S' := []) zp_196 rfl rfl rfl zp_198 (Or.inl rfl) rfl rfl (zqm_imp r11' (fun rv h12 r12 => zri_imp r12 (fun v12 r12' => ?_)))
      refine zQ_seq 8 (pc' := 195) (L' := [some (.ref 58), some (.int x1), some (.int x2), some (.int x3), some (.int x4), some (.int x5), some (.int x6), some (.int (h.1 61 (h.1 58 18).toInt.toNat)), some (.int (h.1 61 ((h.1 58 18) + (Int32.ofInt 1)).toInt.toNat)), some (.int (h.1 61 ((h.1 58 18) + (Int32.ofInt 2)).toInt.toNat)), some (.int (h.1 61 ((h.1 58 18) + (Int32.ofInt 3)).toInt.toNat)), some (.int v9), some (.int v12), some (.long (v9.toInt64)), none, some (.long (Int64.ofNat 1)), none, none, none]) (S' := [.int v12, .int v9]) (h' := h12) zp_196 rfl ?_
      refine zQ_ic zp_196 rfl (t := 243) rfl (i := v9.toInt) (j := v12.toInt) rfl rfl (fun c13 => ?_) (fun c13 => ?_)
      · refine zQ_seq 2 (pc' := 247) (L' := [some (.ref 58), some (.int x1), some (.int x2), some (.int x3), some (.int x4), some (.int x5), some (.int x6), some (.int (h.1 61 (h.1 58 18).toInt.toNat)), some (.int (h.1 61 ((h.1 58 18) + (Int32.ofInt 1)).toInt.toNat)), some (.int (h.1 61 ((h.1 58 18) + (Int32.ofInt 2)).toInt.toNat)), some (.int (h.1 61 ((h.1 58 18) + (Int32.ofInt 3)).toInt.toNat)), some (.int v9), some (.int v12), some (.long (v9.toInt64)), none, some (.long (Int64.ofNat 1)), none, none, none]) (S' := [.long (Int64.ofNat 1), .long (v9.toInt64)]) (h' := h12) zp_196 rfl ?_
        refine zQ_csL (M' := 194) (as := [.long (v9.toInt64), .long (Int64.ofNat 1)]) (S' := []) zp_196 rfl rfl rfl zp_194 rfl rfl rfl (zqm_imp (r12'.1 c13) (fun rv h14 r14 => zrl_imp r14 (fun v14 r14' => ?_)))
        refine zQ_seq 2 (pc' := 253) (L' := [some (.ref 58), some (.int x1), some (.int x2), some (.int x3), some (.int x4), some (.int x5), some (.int x6), some (.int (h.1 61 (h.1 58 18).toInt.toNat)), some (.int (h.1 61 ((h.1 58 18) + (Int32.ofInt 1)).toInt.toNat)), some (.int (h.1 61 ((h.1 58 18) + (Int32.ofInt 2)).toInt.toNat)), some (.int (h.1 61 ((h.1 58 18) + (Int32.ofInt 3)).toInt.toNat)), some (.int v9), some (.int v12), some (.long (v9.toInt64)), none, some (.long (Int64.ofNat 1)), none, some (.long v14), none]) (S' := [.int x3]) (h' := h14) zp_196 rfl ?_
        refine zQ_if zp_196 rfl (t := 264) rfl (i := x3.toInt) rfl (fun c15 => ?_) (fun c15 => ?_)
        · refine zQ_seq 2 (pc' := 268) (L' := [some (.ref 58), some (.int x1), some (.int x2), some (.int x3), some (.int x4), some (.int x5), some (.int x6), some (.int (h.1 61 (h.1 58 18).toInt.toNat)), some (.int (h.1 61 ((h.1 58 18) + (Int32.ofInt 1)).toInt.toNat)), some (.int (h.1 61 ((h.1 58 18) + (Int32.ofInt 2)).toInt.toNat)), some (.int (h.1 61 ((h.1 58 18) + (Int32.ofInt 3)).toInt.toNat)), some (.int v9), some (.int v12), some (.long (v9.toInt64)), none, some (.long (Int64.ofNat 1)), none, some (.long v14), none]) (S' := [.long v14, .long (Int64.ofNat 1)]) (h' := h14) zp_196 rfl ?_
          refine zQ_ldiv zp_196 rfl (fun b16 => ?_)
          refine zQ_seq 1 (pc' := 270) (L' := [some (.ref 58), some (.int x1), some (.int x2), some (.int x3), some (.int x4), some (.int x5), some (.int x6), some (.int (h.1 61 (h.1 58 18).toInt.toNat)), some (.int (h.1 61 ((h.1 58 18) + (Int32.ofInt 1)).toInt.toNat)), some (.int (h.1 61 ((h.1 58 18) + (Int32.ofInt 2)).toInt.toNat)), some (.int (h.1 61 ((h.1 58 18) + (Int32.ofInt 3)).toInt.toNat)), some (.int v9), some (.int v12), some (.long (v9.toInt64)), none, some (.long (Int64.ofNat 1)), none, some (.long v14), none]) (S' := [.int (((Int64.ofNat 1) / v14).toInt32)]) (h' := h14) zp_196 rfl ?_
          exact zQ_retI zp_196 rfl ((r14'.1 c15) b16)
        · refine zQ_seq 2 (pc' := 260) (L' := [some (.ref 58), some (.int x1), some (.int x2), some (.int x3), some (.int x4), some (.int x5), some (.int x6), some (.int (h.1 61 (h.1 58 18).toInt.toNat)), some (.int (h.1 61 ((h.1 58 18) + (Int32.ofInt 1)).toInt.toNat)), some (.int (h.1 61 ((h.1 58 18) + (Int32.ofInt 2)).toInt.toNat)), some (.int (h.1 61 ((h.1 58 18) + (Int32.ofInt 3)).toInt.toNat)), some (.int v9), some (.int v12), some (.long (v9.toInt64)), none, some (.long (Int64.ofNat 1)), none, some (.long v14), none]) (S' := [.long v14, .long (v9.toInt64)]) (h' := h14) zp_196 rfl ?_
          refine zQ_ldiv zp_196 rfl (fun b17 => ?_)
          refine zQ_goto zp_196 rfl (t := 269) rfl ?_
          refine zQ_seq 1 (pc' := 270) (L' := [some (.ref 58), some (.int x1), some (.int x2), some (.int x3), some (.int x4), some (.int x5), some (.int x6), some (.int (h.1 61 (h.1 58 18).toInt.toNat)), some (.int (h.1 61 ((h.1 58 18) + (Int32.ofInt 1)).toInt.toNat)), some (.int (h.1 61 ((h.1 58 18) + (Int32.ofInt 2)).toInt.toNat)), some (.int (h.1 61 ((h.1 58 18) + (Int32.ofInt 3)).toInt.toNat)), some (.int v9), some (.int v12), some (.long (v9.toInt64)), none, some (.long (Int64.ofNat 1)), none, some (.long v14), none]) (S' := [.int (((v9.toInt64) / v14).toInt32)]) (h' := h14) zp_196 rfl ?_
          exact zQ_retI zp_196 rfl ((r14'.2 c15) b17)
      · refine zQ_seq 21 (pc' := 230) (L' := [some (.ref 58), some (.int x1), some (.int x2), some (.int x3), some (.int x4), some (.int x5), some (.int x6), some (.int (h.1 61 (h.1 58 18).toInt.toNat)), some (.int (h.1 61 ((h.1 58 18) + (Int32.ofInt 1)).toInt.toNat)), some (.int (h.1 61 ((h.1 58 18) + (Int32.ofInt 2)).toInt.toNat)), some (.int (h.1 61 ((h.1 58 18) + (Int32.ofInt 3)).toInt.toNat)), some (.int v9), some (.int v12), some (.long ((((h.1 61 (h.1 58 18).toInt.toNat) * (h.1 61 ((h.1 58 18) + (Int32.ofInt 3)).toInt.toNat)) - ((h.1 61 ((h.1 58 18) + (Int32.ofInt 1)).toInt.toNat) * (h.1 61 ((h.1 58 18) + (Int32.ofInt 2)).toInt.toNat))).toInt64)), none, some (.long (((((h.1 61 (h.1 58 18).toInt.toNat) + (h.1 61 ((h.1 58 18) + (Int32.ofInt 3)).toInt.toNat)) - (h.1 61 ((h.1 58 18) + (Int32.ofInt 1)).toInt.toNat)) - (h.1 61 ((h.1 58 18) + (Int32.ofInt 2)).toInt.toNat)).toInt64)), none, none, none]) (S' := [.int (lg_cmp (((((h.1 61 (h.1 58 18).toInt.toNat) + (h.1 61 ((h.1 58 18) + (Int32.ofInt 3)).toInt.toNat)) - (h.1 61 ((h.1 58 18) + (Int32.ofInt 1)).toInt.toNat)) - (h.1 61 ((h.1 58 18) + (Int32.ofInt 2)).toInt.toNat)).toInt64) (Int64.ofNat 0))]) (h' := h12) zp_196 rfl ?_
        refine zQ_if zp_196 rfl (t := 243) rfl (i := (lg_cmp (((((h.1 61 (h.1 58 18).toInt.toNat) + (h.1 61 ((h.1 58 18) + (Int32.ofInt 3)).toInt.toNat)) - (h.1 61 ((h.1 58 18) + (Int32.ofInt 1)).toInt.toNat)) - (h.1 61 ((h.1 58 18) + (Int32.ofInt 2)).toInt.toNat)).toInt64) (Int64.ofNat 0)).toInt) rfl (fun c18 => ?_) (fun c18 => ?_)
        · refine zQ_seq 2 (pc' := 247) (L' := [some (.ref 58), some (.int x1), some (.int x2), some (.int x3), some (.int x4), some (.int x5), some (.int x6), some (.int (h.1 61 (h.1 58 18).toInt.toNat)), some (.int (h.1 61 ((h.1 58 18) + (Int32.ofInt 1)).toInt.toNat)), some (.int (h.1 61 ((h.1 58 18) + (Int32.ofInt 2)).toInt.toNat)), some (.int (h.1 61 ((h.1 58 18) + (Int32.ofInt 3)).toInt.toNat)), some (.int v9), some (.int v12), some (.long ((((h.1 61 (h.1 58 18).toInt.toNat) * (h.1 61 ((h.1 58 18) + (Int32.ofInt 3)).toInt.toNat)) - ((h.1 61 ((h.1 58 18) + (Int32.ofInt 1)).toInt.toNat) * (h.1 61 ((h.1 58 18) + (Int32.ofInt 2)).toInt.toNat))).toInt64)), none, some (.long (((((h.1 61 (h.1 58 18).toInt.toNat) + (h.1 61 ((h.1 58 18) + (Int32.ofInt 3)).toInt.toNat)) - (h.1 61 ((h.1 58 18) + (Int32.ofInt 1)).toInt.toNat)) - (h.1 61 ((h.1 58 18) + (Int32.ofInt 2)).toInt.toNat)).toInt64)), none, none, none]) (S' := [.long (((((h.1 61 (h.1 58 18).toInt.toNat) + (h.1 61 ((h.1 58 18) + (Int32.ofInt 3)).toInt.toNat)) - (h.1 61 ((h.1 58 18) + (Int32.ofInt 1)).toInt.toNat)) - (h.1 61 ((h.1 58 18) + (Int32.ofInt 2)).toInt.toNat)).toInt64), .long ((((h.1 61 (h.1 58 18).toInt.toNat) * (h.1 61 ((h.1 58 18) + (Int32.ofInt 3)).toInt.toNat)) - ((h.1 61 ((h.1 58 18) + (Int32.ofInt 1)).toInt.toNat) * (h.1 61 ((h.1 58 18) + (Int32.ofInt 2)).toInt.toNat))).toInt64)]) (h' := h12) zp_196 rfl ?_
          refine zQ_csL (M' := 194) (as := [.long ((((h.1 61 (h.1 58 18).toInt.toNat) * (h.1 61 ((h.1 58 18) + (Int32.ofInt 3)).toInt.toNat)) - ((h.1 61 ((h.1 58 18) + (Int32.ofInt 1)).toInt.toNat) * (h.1 61 ((h.1 58 18) + (Int32.ofInt 2)).toInt.toNat))).toInt64), .long (((((h.1 61 (h.1 58 18).toInt.toNat) + (h.1 61 ((h.1 58 18) + (Int32.ofInt 3)).toInt.toNat)) - (h.1 61 ((h.1 58 18) + (Int32.ofInt 1)).toInt.toNat)) - (h.1 61 ((h.1 58 18) + (Int32.ofInt 2)).toInt.toNat)).toInt64)]) (S' := []) zp_196 rfl rfl rfl zp_194 rfl rfl rfl (zqm_imp ((r12'.2 c13).1 c18) (fun rv h19 r19 => zrl_imp r19 (fun v19 r19' => ?_)))
          refine zQ_seq 2 (pc' := 253) (L' := [some (.ref 58), some (.int x1), some (.int x2), some (.int x3), some (.int x4), some (.int x5), some (.int x6), some (.int (h.1 61 (h.1 58 18).toInt.toNat)), some (.int (h.1 61 ((h.1 58 18) + (Int32.ofInt 1)).toInt.toNat)), some (.int (h.1 61 ((h.1 58 18) + (Int32.ofInt 2)).toInt.toNat)), some (.int (h.1 61 ((h.1 58 18) + (Int32.ofInt 3)).toInt.toNat)), some (.int v9), some (.int v12), some (.long ((((h.1 61 (h.1 58 18).toInt.toNat) * (h.1 61 ((h.1 58 18) + (Int32.ofInt 3)).toInt.toNat)) - ((h.1 61 ((h.1 58 18) + (Int32.ofInt 1)).toInt.toNat) * (h.1 61 ((h.1 58 18) + (Int32.ofInt 2)).toInt.toNat))).toInt64)), none, some (.long (((((h.1 61 (h.1 58 18).toInt.toNat) + (h.1 61 ((h.1 58 18) + (Int32.ofInt 3)).toInt.toNat)) - (h.1 61 ((h.1 58 18) + (Int32.ofInt 1)).toInt.toNat)) - (h.1 61 ((h.1 58 18) + (Int32.ofInt 2)).toInt.toNat)).toInt64)), none, some (.long v19), none]) (S' := [.int x3]) (h' := h19) zp_196 rfl ?_
          refine zQ_if zp_196 rfl (t := 264) rfl (i := x3.toInt) rfl (fun c20 => ?_) (fun c20 => ?_)
          · refine zQ_seq 2 (pc' := 268) (L' := [some (.ref 58), some (.int x1), some (.int x2), some (.int x3), some (.int x4), some (.int x5), some (.int x6), some (.int (h.1 61 (h.1 58 18).toInt.toNat)), some (.int (h.1 61 ((h.1 58 18) + (Int32.ofInt 1)).toInt.toNat)), some (.int (h.1 61 ((h.1 58 18) + (Int32.ofInt 2)).toInt.toNat)), some (.int (h.1 61 ((h.1 58 18) + (Int32.ofInt 3)).toInt.toNat)), some (.int v9), some (.int v12), some (.long ((((h.1 61 (h.1 58 18).toInt.toNat) * (h.1 61 ((h.1 58 18) + (Int32.ofInt 3)).toInt.toNat)) - ((h.1 61 ((h.1 58 18) + (Int32.ofInt 1)).toInt.toNat) * (h.1 61 ((h.1 58 18) + (Int32.ofInt 2)).toInt.toNat))).toInt64)), none, some (.long (((((h.1 61 (h.1 58 18).toInt.toNat) + (h.1 61 ((h.1 58 18) + (Int32.ofInt 3)).toInt.toNat)) - (h.1 61 ((h.1 58 18) + (Int32.ofInt 1)).toInt.toNat)) - (h.1 61 ((h.1 58 18) + (Int32.ofInt 2)).toInt.toNat)).toInt64)), none, some (.long v19), none]) (S' := [.long v19, .long (((((h.1 61 (h.1 58 18).toInt.toNat) + (h.1 61 ((h.1 58 18) + (Int32.ofInt 3)).toInt.toNat)) - (h.1 61 ((h.1 58 18) + (Int32.ofInt 1)).toInt.toNat)) - (h.1 61 ((h.1 58 18) + (Int32.ofInt 2)).toInt.toNat)).toInt64)]) (h' := h19) zp_196 rfl ?_
            refine zQ_ldiv zp_196 rfl (fun b21 => ?_)
            refine zQ_seq 1 (pc' := 270) (L' := [some (.ref 58), some (.int x1), some (.int x2), some (.int x3), some (.int x4), some (.int x5), some (.int x6), some (.int (h.1 61 (h.1 58 18).toInt.toNat)), some (.int (h.1 61 ((h.1 58 18) + (Int32.ofInt 1)).toInt.toNat)), some (.int (h.1 61 ((h.1 58 18) + (Int32.ofInt 2)).toInt.toNat)), some (.int (h.1 61 ((h.1 58 18) + (Int32.ofInt 3)).toInt.toNat)), some (.int v9), some (.int v12), some (.long ((((h.1 61 (h.1 58 18).toInt.toNat) * (h.1 61 ((h.1 58 18) + (Int32.ofInt 3)).toInt.toNat)) - ((h.1 61 ((h.1 58 18) + (Int32.ofInt 1)).toInt.toNat) * (h.1 61 ((h.1 58 18) + (Int32.ofInt 2)).toInt.toNat))).toInt64)), none, some (.long (((((h.1 61 (h.1 58 18).toInt.toNat) + (h.1 61 ((h.1 58 18) + (Int32.ofInt 3)).toInt.toNat)) - (h.1 61 ((h.1 58 18) + (Int32.ofInt 1)).toInt.toNat)) - (h.1 61 ((h.1 58 18) + (Int32.ofInt 2)).toInt.toNat)).toInt64)), none, some (.long v19), none]) (S' := [.int (((((((h.1 61 (h.1 58 18).toInt.toNat) + (h.1 61 ((h.1 58 18) + (Int32.ofInt 3)).toInt.toNat)) - (h.1 61 ((h.1 58 18) + (Int32.ofInt 1)).toInt.toNat)) - (h.1 61 ((h.1 58 18) + (Int32.ofInt 2)).toInt.toNat)).toInt64) / v19).toInt32)]) (h' := h19) zp_196 rfl ?_
            exact zQ_retI zp_196 rfl ((r19'.1 c20) b21)
          · refine zQ_seq 2 (pc' := 260) (L' := [some (.ref 58), some (.int x1), some (.int x2), some (.int x3), some (.int x4), some (.int x5), some (.int x6), some (.int (h.1 61 (h.1 58 18).toInt.toNat)), some (.int (h.1 61 ((h.1 58 18) + (Int32.ofInt 1)).toInt.toNat)), some (.int (h.1 61 ((h.1 58 18) + (Int32.ofInt 2)).toInt.toNat)), some (.int (h.1 61 ((h.1 58 18) + (Int32.ofInt 3)).toInt.toNat)), some (.int v9), some (.int v12), some (.long ((((h.1 61 (h.1 58 18).toInt.toNat) * (h.1 61 ((h.1 58 18) + (Int32.ofInt 3)).toInt.toNat)) - ((h.1 61 ((h.1 58 18) + (Int32.ofInt 1)).toInt.toNat) * (h.1 61 ((h.1 58 18) + (Int32.ofInt 2)).toInt.toNat))).toInt64)), none, some (.long (((((h.1 61 (h.1 58 18).toInt.toNat) + (h.1 61 ((h.1 58 18) + (Int32.ofInt 3)).toInt.toNat)) - (h.1 61 ((h.1 58 18) + (Int32.ofInt 1)).toInt.toNat)) - (h.1 61 ((h.1 58 18) + (Int32.ofInt 2)).toInt.toNat)).toInt64)), none, some (.long v19), none]) (S' := [.long v19, .long ((((h.1 61 (h.1 58 18).toInt.toNat) * (h.1 61 ((h.1 58 18) + (Int32.ofInt 3)).toInt.toNat)) - ((h.1 61 ((h.1 58 18) + (Int32.ofInt 1)).toInt.toNat) * (h.1 61 ((h.1 58 18) + (Int32.ofInt 2)).toInt.toNat))).toInt64)]) (h' := h19) zp_196 rfl ?_
            refine zQ_ldiv zp_196 rfl (fun b22 => ?_)
            refine zQ_goto zp_196 rfl (t := 269) rfl ?_
            refine zQ_seq 1 (pc' := 270) (L' := [some (.ref 58), some (.int x1), some (.int x2), some (.int x3), some (.int x4), some (.int x5), some (.int x6), some (.int (h.1 61 (h.1 58 18).toInt.toNat)), some (.int (h.1 61 ((h.1 58 18) + (Int32.ofInt 1)).toInt.toNat)), some (.int (h.1 61 ((h.1 58 18) + (Int32.ofInt 2)).toInt.toNat)), some (.int (h.1 61 ((h.1 58 18) + (Int32.ofInt 3)).toInt.toNat)), some (.int v9), some (.int v12), some (.long ((((h.1 61 (h.1 58 18).toInt.toNat) * (h.1 61 ((h.1 58 18) + (Int32.ofInt 3)).toInt.toNat)) - ((h.1 61 ((h.1 58 18) + (Int32.ofInt 1)).toInt.toNat) * (h.1 61 ((h.1 58 18) + (Int32.ofInt 2)).toInt.toNat))).toInt64)), none, some (.long (((((h.1 61 (h.1 58 18).toInt.toNat) + (h.1 61 ((h.1 58 18) + (Int32.ofInt 3)).toInt.toNat)) - (h.1 61 ((h.1 58 18) + (Int32.ofInt 1)).toInt.toNat)) - (h.1 61 ((h.1 58 18) + (Int32.ofInt 2)).toInt.toNat)).toInt64)), none, some (.long v19), none]) (S' := [.int ((((((h.1 61 (h.1 58 18).toInt.toNat) * (h.1 61 ((h.1 58 18) + (Int32.ofInt 3)).toInt.toNat)) - ((h.1 61 ((h.1 58 18) + (Int32.ofInt 1)).toInt.toNat) * (h.1 61 ((h.1 58 18) + (Int32.ofInt 2)).toInt.toNat))).toInt64) / v19).toInt32)]) (h' := h19) zp_196 rfl ?_
            exact zQ_retI zp_196 rfl ((r19'.2 c20) b22)
        · refine zQ_seq 8 (pc' := 247) (L' := [some (.ref 58), some (.int x1), some (.int x2), some (.int x3), some (.int x4), some (.int x5), some (.int x6), some (.int (h.1 61 (h.1 58 18).toInt.toNat)), some (.int (h.1 61 ((h.1 58 18) + (Int32.ofInt 1)).toInt.toNat)), some (.int (h.1 61 ((h.1 58 18) + (Int32.ofInt 2)).toInt.toNat)), some (.int (h.1 61 ((h.1 58 18) + (Int32.ofInt 3)).toInt.toNat)), some (.int v9), some (.int v12), some (.long (-((((h.1 61 (h.1 58 18).toInt.toNat) * (h.1 61 ((h.1 58 18) + (Int32.ofInt 3)).toInt.toNat)) - ((h.1 61 ((h.1 58 18) + (Int32.ofInt 1)).toInt.toNat) * (h.1 61 ((h.1 58 18) + (Int32.ofInt 2)).toInt.toNat))).toInt64))), none, some (.long (-(((((h.1 61 (h.1 58 18).toInt.toNat) + (h.1 61 ((h.1 58 18) + (Int32.ofInt 3)).toInt.toNat)) - (h.1 61 ((h.1 58 18) + (Int32.ofInt 1)).toInt.toNat)) - (h.1 61 ((h.1 58 18) + (Int32.ofInt 2)).toInt.toNat)).toInt64))), none, none, none]) (S' := [.long (-(((((h.1 61 (h.1 58 18).toInt.toNat) + (h.1 61 ((h.1 58 18) + (Int32.ofInt 3)).toInt.toNat)) - (h.1 61 ((h.1 58 18) + (Int32.ofInt 1)).toInt.toNat)) - (h.1 61 ((h.1 58 18) + (Int32.ofInt 2)).toInt.toNat)).toInt64)), .long (-((((h.1 61 (h.1 58 18).toInt.toNat) * (h.1 61 ((h.1 58 18) + (Int32.ofInt 3)).toInt.toNat)) - ((h.1 61 ((h.1 58 18) + (Int32.ofInt 1)).toInt.toNat) * (h.1 61 ((h.1 58 18) + (Int32.ofInt 2)).toInt.toNat))).toInt64))]) (h' := h12) zp_196 rfl ?_
          refine zQ_csL (M' := 194) (as := [.long (-((((h.1 61 (h.1 58 18).toInt.toNat) * (h.1 61 ((h.1 58 18) + (Int32.ofInt 3)).toInt.toNat)) - ((h.1 61 ((h.1 58 18) + (Int32.ofInt 1)).toInt.toNat) * (h.1 61 ((h.1 58 18) + (Int32.ofInt 2)).toInt.toNat))).toInt64)), .long (-(((((h.1 61 (h.1 58 18).toInt.toNat) + (h.1 61 ((h.1 58 18) + (Int32.ofInt 3)).toInt.toNat)) - (h.1 61 ((h.1 58 18) + (Int32.ofInt 1)).toInt.toNat)) - (h.1 61 ((h.1 58 18) + (Int32.ofInt 2)).toInt.toNat)).toInt64))]) (S' := []) zp_196 rfl rfl rfl zp_194 rfl rfl rfl (zqm_imp ((r12'.2 c13).2 c18) (fun rv h23 r23 => zrl_imp r23 (fun v23 r23' => ?_)))
          refine zQ_seq 2 (pc' := 253) (L' := [some (.ref 58), some (.int x1), some (.int x2), some (.int x3), some (.int x4), some (.int x5), some (.int x6), some (.int (h.1 61 (h.1 58 18).toInt.toNat)), some (.int (h.1 61 ((h.1 58 18) + (Int32.ofInt 1)).toInt.toNat)), some (.int (h.1 61 ((h.1 58 18) + (Int32.ofInt 2)).toInt.toNat)), some (.int (h.1 61 ((h.1 58 18) + (Int32.ofInt 3)).toInt.toNat)), some (.int v9), some (.int v12), some (.long (-((((h.1 61 (h.1 58 18).toInt.toNat) * (h.1 61 ((h.1 58 18) + (Int32.ofInt 3)).toInt.toNat)) - ((h.1 61 ((h.1 58 18) + (Int32.ofInt 1)).toInt.toNat) * (h.1 61 ((h.1 58 18) + (Int32.ofInt 2)).toInt.toNat))).toInt64))), none, some (.long (-(((((h.1 61 (h.1 58 18).toInt.toNat) + (h.1 61 ((h.1 58 18) + (Int32.ofInt 3)).toInt.toNat)) - (h.1 61 ((h.1 58 18) + (Int32.ofInt 1)).toInt.toNat)) - (h.1 61 ((h.1 58 18) + (Int32.ofInt 2)).toInt.toNat)).toInt64))), none, some (.long v23), none]) (S' := [.int x3]) (h' := h23) zp_196 rfl ?_
          refine zQ_if zp_196 rfl (t := 264) rfl (i := x3.toInt) rfl (fun c24 => ?_) (fun c24 => ?_)
          · refine zQ_seq 2 (pc' := 268) (L' := [some (.ref 58), some (.int x1), some (.int x2), some (.int x3), some (.int x4), some (.int x5), some (.int x6), some (.int (h.1 61 (h.1 58 18).toInt.toNat)), some (.int (h.1 61 ((h.1 58 18) + (Int32.ofInt 1)).toInt.toNat)), some (.int (h.1 61 ((h.1 58 18) + (Int32.ofInt 2)).toInt.toNat)), some (.int (h.1 61 ((h.1 58 18) + (Int32.ofInt 3)).toInt.toNat)), some (.int v9), some (.int v12), some (.long (-((((h.1 61 (h.1 58 18).toInt.toNat) * (h.1 61 ((h.1 58 18) + (Int32.ofInt 3)).toInt.toNat)) - ((h.1 61 ((h.1 58 18) + (Int32.ofInt 1)).toInt.toNat) * (h.1 61 ((h.1 58 18) + (Int32.ofInt 2)).toInt.toNat))).toInt64))), none, some (.long (-(((((h.1 61 (h.1 58 18).toInt.toNat) + (h.1 61 ((h.1 58 18) + (Int32.ofInt 3)).toInt.toNat)) - (h.1 61 ((h.1 58 18) + (Int32.ofInt 1)).toInt.toNat)) - (h.1 61 ((h.1 58 18) + (Int32.ofInt 2)).toInt.toNat)).toInt64))), none, some (.long v23), none]) (S' := [.long v23, .long (-(((((h.1 61 (h.1 58 18).toInt.toNat) + (h.1 61 ((h.1 58 18) + (Int32.ofInt 3)).toInt.toNat)) - (h.1 61 ((h.1 58 18) + (Int32.ofInt 1)).toInt.toNat)) - (h.1 61 ((h.1 58 18) + (Int32.ofInt 2)).toInt.toNat)).toInt64))]) (h' := h23) zp_196 rfl ?_
            refine zQ_ldiv zp_196 rfl (fun b25 => ?_)
            refine zQ_seq 1 (pc' := 270) (L' := [some (.ref 58), some (.int x1), some (.int x2), some (.int x3), some (.int x4), some (.int x5), some (.int x6), some (.int (h.1 61 (h.1 58 18).toInt.toNat)), some (.int (h.1 61 ((h.1 58 18) + (Int32.ofInt 1)).toInt.toNat)), some (.int (h.1 61 ((h.1 58 18) + (Int32.ofInt 2)).toInt.toNat)), some (.int (h.1 61 ((h.1 58 18) + (Int32.ofInt 3)).toInt.toNat)), some (.int v9), some (.int v12), some (.long (-((((h.1 61 (h.1 58 18).toInt.toNat) * (h.1 61 ((h.1 58 18) + (Int32.ofInt 3)).toInt.toNat)) - ((h.1 61 ((h.1 58 18) + (Int32.ofInt 1)).toInt.toNat) * (h.1 61 ((h.1 58 18) + (Int32.ofInt 2)).toInt.toNat))).toInt64))), none, some (.long (-(((((h.1 61 (h.1 58 18).toInt.toNat) + (h.1 61 ((h.1 58 18) + (Int32.ofInt 3)).toInt.toNat)) - (h.1 61 ((h.1 58 18) + (Int32.ofInt 1)).toInt.toNat)) - (h.1 61 ((h.1 58 18) + (Int32.ofInt 2)).toInt.toNat)).toInt64))), none, some (.long v23), none]) (S' := [.int (((-(((((h.1 61 (h.1 58 18).toInt.toNat) + (h.1 61 ((h.1 58 18) + (Int32.ofInt 3)).toInt.toNat)) - (h.1 61 ((h.1 58 18) + (Int32.ofInt 1)).toInt.toNat)) - (h.1 61 ((h.1 58 18) + (Int32.ofInt 2)).toInt.toNat)).toInt64)) / v23).toInt32)]) (h' := h23) zp_196 rfl ?_
            exact zQ_retI zp_196 rfl ((r23'.1 c24) b25)
          · refine zQ_seq 2 (pc' := 260) (L' := [some (.ref 58), some (.int x1), some (.int x2), some (.int x3), some (.int x4), some (.int x5), some (.int x6), some (.int (h.1 61 (h.1 58 18).toInt.toNat)), some (.int (h.1 61 ((h.1 58 18) + (Int32.ofInt 1)).toInt.toNat)), some (.int (h.1 61 ((h.1 58 18) + (Int32.ofInt 2)).toInt.toNat)), some (.int (h.1 61 ((h.1 58 18) + (Int32.ofInt 3)).toInt.toNat)), some (.int v9), some (.int v12), some (.long (-((((h.1 61 (h.1 58 18).toInt.toNat) * (h.1 61 ((h.1 58 18) + (Int32.ofInt 3)).toInt.toNat)) - ((h.1 61 ((h.1 58 18) + (Int32.ofInt 1)).toInt.toNat) * (h.1 61 ((h.1 58 18) + (Int32.ofInt 2)).toInt.toNat))).toInt64))), none, some (.long (-(((((h.1 61 (h.1 58 18).toInt.toNat) + (h.1 61 ((h.1 58 18) + (Int32.ofInt 3)).toInt.toNat)) - (h.1 61 ((h.1 58 18) + (Int32.ofInt 1)).toInt.toNat)) - (h.1 61 ((h.1 58 18) + (Int32.ofInt 2)).toInt.toNat)).toInt64))), none, some (.long v23), none]) (S' := [.long v23, .long (-((((h.1 61 (h.1 58 18).toInt.toNat) * (h.1 61 ((h.1 58 18) + (Int32.ofInt 3)).toInt.toNat)) - ((h.1 61 ((h.1 58 18) + (Int32.ofInt 1)).toInt.toNat) * (h.1 61 ((h.1 58 18) + (Int32.ofInt 2)).toInt.toNat))).toInt64))]) (h' := h23) zp_196 rfl ?_
            refine zQ_ldiv zp_196 rfl (fun b26 => ?_)
            refine zQ_goto zp_196 rfl (t := 269) rfl ?_
            refine zQ_seq 1 (pc' := 270) (L' := [some (.ref 58), some (.int x1), some (.int x2), some (.int x3), some (.int x4), some (.int x5), some (.int x6), some (.int (h.1 61 (h.1 58 18).toInt.toNat)), some (.int (h.1 61 ((h.1 58 18) + (Int32.ofInt 1)).toInt.toNat)), some (.int (h.1 61 ((h.1 58 18) + (Int32.ofInt 2)).toInt.toNat)), some (.int (h.1 61 ((h.1 58 18) + (Int32.ofInt 3)).toInt.toNat)), some (.int v9), some (.int v12), some (.long (-((((h.1 61 (h.1 58 18).toInt.toNat) * (h.1 61 ((h.1 58 18) + (Int32.ofInt 3)).toInt.toNat)) - ((h.1 61 ((h.1 58 18) + (Int32.ofInt 1)).toInt.toNat) * (h.1 61 ((h.1 58 18) + (Int32.ofInt 2)).toInt.toNat))).toInt64))), none, some (.long (-(((((h.1 61 (h.1 58 18).toInt.toNat) + (h.1 61 ((h.1 58 18) + (Int32.ofInt 3)).toInt.toNat)) - (h.1 61 ((h.1 58 18) + (Int32.ofInt 1)).toInt.toNat)) - (h.1 61 ((h.1 58 18) + (Int32.ofInt 2)).toInt.toNat)).toInt64))), none, some (.long v23), none]) (S' := [.int (((-((((h.1 61 (h.1 58 18).toInt.toNat) * (h.1 61 ((h.1 58 18) + (Int32.ofInt 3)).toInt.toNat)) - ((h.1 61 ((h.1 58 18) + (Int32.ofInt 1)).toInt.toNat) * (h.1 61 ((h.1 58 18) + (Int32.ofInt 2)).toInt.toNat))).toInt64)) / v23).toInt32)]) (h' := h23) zp_196 rfl ?_
            exact zQ_retI zp_196 rfl ((r23'.2 c24) b26)
    · refine zQ_seq 4 (pc' := 94) (L' := [some (.ref 58), some (.int x1), some (.int x2), some (.int x3), some (.int x4), some (.int x5), some (.int x6), some (.int x7), none, none, none, none, none, none, none, none, none, none, none]) (S' := [.int (-1000001 : Int32)]) (h' := (zSet h 58 3 x4)) zp_196 rfl ?_
      exact zQ_retI zp_196 rfl ((H.1 c1).2 c2)
  · refine zQ_seq 1 (pc' := 43) (L' := [some (.ref 58), some (.int x1), some (.int x2), some (.int x3), some (.int x4), some (.int x5), some (.int x6), some (.int x7), none, none, none, none, none, none, none, none, none, none, none]) (S' := [.int x6]) (h' := h) zp_196 rfl ?_
    refine zQ_if zp_196 rfl (t := 72) rfl (i := x6.toInt) rfl (fun c27 => ?_) (fun c27 => ?_)
    · refine zQ_seq 3 (pc' := 78) (L' := [some (.ref 58), some (.int x1), some (.int x2), some (.int x3), some (.int x4), some (.int x5), some (.int (Int32.ofInt 0)), some (.int (x7 + Int32.ofInt 1)), none, none, none, none, none, none, none, none, none, none, none]) (S' := []) (h' := h) zp_196 rfl ?_
      refine zQ_goto zp_196 rfl (t := 35) rfl ?_
      exact ((H.2 c1).1 c27)
    · refine zQ_seq 6 (pc' := 57) (L' := [some (.ref 58), some (.int x1), some (.int x2), some (.int x3), some (.int x4), some (.int x5), some (.int x6), some (.int x7), none, none, none, none, none, none, none, none, none, none, none]) (S' := [.int ((h.1 58 18) + x7), .ref 61]) (h' := h) zp_196 rfl ?_
      refine zQ_ial (N := 320) (f := h.1 61) zp_196 rfl rfl rfl (fun b28 b28' => ?_)
      refine zQ_seq 2 (pc' := 62) (L' := [some (.ref 58), some (.int x1), some (.int x2), some (.int x3), some (.int x4), some (.int x5), some (.int x6), some (.int x7), none, none, none, none, none, none, none, none, none, none, none]) (S' := [.int (Int32.ofInt 20), .int (Int32.ofInt (-20)), .int (h.1 61 ((h.1 58 18) + x7).toInt.toNat)]) (h' := h) zp_196 rfl ?_
      refine zQ_csI (M' := 121) (as := [.int (h.1 61 ((h.1 58 18) + x7).toInt.toNat), .int (Int32.ofInt (-20)), .int (Int32.ofInt 20)]) (S' := []) zp_196 rfl rfl rfl zp_121 (Or.inr rfl) rfl rfl (zqm_imp (((H.2 c1).2 c27) b28 b28') (fun rv h29 r29 => zri_imp r29 (fun v29 r29' => ?_)))
      refine zQ_if zp_196 rfl (t := 72) rfl (i := v29.toInt) rfl (fun c30 => ?_) (fun c30 => ?_)
      · refine zQ_seq 3 (pc' := 78) (L' := [some (.ref 58), some (.int x1), some (.int x2), some (.int x3), some (.int x4), some (.int x5), some (.int (Int32.ofInt 0)), some (.int (x7 + Int32.ofInt 1)), none, none, none, none, none, none, none, none, none, none, none]) (S' := []) (h' := h29) zp_196 rfl ?_
        refine zQ_goto zp_196 rfl (t := 35) rfl ?_
        exact (r29'.1 c30)
      · refine zQ_seq 1 (pc' := 69) (L' := [some (.ref 58), some (.int x1), some (.int x2), some (.int x3), some (.int x4), some (.int x5), some (.int x6), some (.int x7), none, none, none, none, none, none, none, none, none, none, none]) (S' := [.int (Int32.ofInt 1)]) (h' := h29) zp_196 rfl ?_
        refine zQ_goto zp_196 rfl (t := 73) rfl ?_
        refine zQ_seq 2 (pc' := 78) (L' := [some (.ref 58), some (.int x1), some (.int x2), some (.int x3), some (.int x4), some (.int x5), some (.int (Int32.ofInt 1)), some (.int (x7 + Int32.ofInt 1)), none, none, none, none, none, none, none, none, none, none, none]) (S' := []) (h' := h29) zp_196 rfl ?_
        refine zQ_goto zp_196 rfl (t := 35) rfl ?_
        exact (r29'.2 c30)
theorem s_197 {h : zH} {Q : Option Value → zH → Prop} (a0 : Int32) (a1 : Int32) (H : ((a0.toInt ≤ a1.toInt → Q (some (.int a1)) h) ∧ (¬ (a0.toInt ≤ a1.toInt) → Q (some (.int a0)) h))) : zqm 197 [.int a0, .int a1] h Q := by
  refine zqm_of zp_197 (fun n => ?_)
  show zQ n 197 0 [some (.int a0), some (.int a1)] [] h Q
  refine zQ_seq 2 (pc' := 2) (L' := [some (.int a0), some (.int a1)]) (S' := [.int a1, .int a0]) (h' := h) zp_197 rfl ?_
  refine zQ_ic zp_197 rfl (t := 9) rfl (i := a0.toInt) (j := a1.toInt) rfl rfl (fun c1 => ?_) (fun c1 => ?_)
  · refine zQ_seq 1 (pc' := 10) (L' := [some (.int a0), some (.int a1)]) (S' := [.int a1]) (h' := h) zp_197 rfl ?_
    exact zQ_retI zp_197 rfl (H.1 c1)
  · refine zQ_seq 1 (pc' := 6) (L' := [some (.int a0), some (.int a1)]) (S' := [.int a0]) (h' := h) zp_197 rfl ?_
    refine zQ_goto zp_197 rfl (t := 10) rfl ?_
    exact zQ_retI zp_197 rfl (H.2 c1)
theorem s_198 {h : zH} {Q : Option Value → zH → Prop} (a0 : Int32) (a1 : Int32) (H : ((a1.toInt ≤ a0.toInt → Q (some (.int a1)) h) ∧ (¬ (a1.toInt ≤ a0.toInt) → Q (some (.int a0)) h))) : zqm 198 [.int a0, .int a1] h Q := by
  refine zqm_of zp_198 (fun n => ?_)
  show zQ n 198 0 [some (.int a0), some (.int a1)] [] h Q
  refine zQ_seq 2 (pc' := 2) (L' := [some (.int a0), some (.int a1)]) (S' := [.int a1, .int a0]) (h' := h) zp_198 rfl ?_
  refine zQ_ic zp_198 rfl (t := 9) rfl (i := a0.toInt) (j := a1.toInt) rfl rfl (fun c1 => ?_) (fun c1 => ?_)
  · refine zQ_seq 1 (pc' := 10) (L' := [some (.int a0), some (.int a1)]) (S' := [.int a1]) (h' := h) zp_198 rfl ?_
    exact zQ_retI zp_198 rfl (H.1 c1)
  · refine zQ_seq 1 (pc' := 6) (L' := [some (.int a0), some (.int a1)]) (S' := [.int a0]) (h' := h) zp_198 rfl ?_
    refine zQ_goto zp_198 rfl (t := 10) rfl ?_
    exact zQ_retI zp_198 rfl (H.2 c1)
theorem s_200 {h : zH} {Q : Option Value → zH → Prop} (a1 : Int32) (H : (∀ n, zqm 121 [.int a1, .int (Int32.ofInt 0), .int (Int32.ofInt 1)] h (fun rv h1 => zri rv (fun v1 => ((¬ v1.toInt = 0 → zqm 150 [.ref 58] h1 (fun rv h3 => zri rv (fun v3 => ((¬ v3.toInt = 0 → zQ n 200 24 [some (.ref 58), some (.int a1), some (.int (Int32.ofInt 0))] [] h3 Q) ∧ (¬ (¬ v3.toInt = 0) → Q (some (.int (-1000002 : Int32))) h3))))) ∧ (¬ (¬ v1.toInt = 0) → Q (some (.int (-1000001 : Int32))) h1)))))) : zqm 200 [.ref 58, .int a1] h Q := by
  refine zqm_of zp_200 (fun n => ?_)
  have H := H n
  show zQ n 200 0 [some (.ref 58), some (.int a1), none] [] h Q
  refine zQ_seq 3 (pc' := 3) (L' := [some (.ref 58), some (.int a1), none]) (S' := [.int (Int32.ofInt 1), .int (Int32.ofInt 0), .int a1]) (h' := h) zp_200 rfl ?_
  refine zQ_csI (M' := 121) (as := [.int a1, .int (Int32.ofInt 0), .int (Int32.ofInt 1)]) (S' := []) zp_200 rfl rfl rfl zp_121 (Or.inr rfl) rfl rfl (zqm_imp H (fun rv h1 r1 => zri_imp r1 (fun v1 r1' => ?_)))
  refine zQ_if zp_200 rfl (t := 12) rfl (i := v1.toInt) rfl (fun c2 => ?_) (fun c2 => ?_)
  · refine zQ_seq 1 (pc' := 13) (L' := [some (.ref 58), some (.int a1), none]) (S' := [.ref 58]) (h' := h1) zp_200 rfl ?_
    refine zQ_cvI (M' := 150) (as := [.ref 58]) (S' := []) zp_200 rfl rfl zp_150 (Or.inr rfl) rfl rfl (zqm_imp (r1'.1 c2) (fun rv h3 r3 => zri_imp r3 (fun v3 r3' => ?_)))
    refine zQ_if zp_200 rfl (t := 22) rfl (i := v3.toInt) rfl (fun c4 => ?_) (fun c4 => ?_)
    · refine zQ_seq 2 (pc' := 24) (L' := [some (.ref 58), some (.int a1), some (.int (Int32.ofInt 0))]) (S' := []) (h' := h3) zp_200 rfl ?_
      exact (r3'.1 c4)
    · refine zQ_seq 1 (pc' := 21) (L' := [some (.ref 58), some (.int a1), none]) (S' := [.int (-1000002 : Int32)]) (h' := h3) zp_200 rfl ?_
      exact zQ_retI zp_200 rfl (r3'.2 c4)
  · refine zQ_seq 1 (pc' := 11) (L' := [some (.ref 58), some (.int a1), none]) (S' := [.int (-1000001 : Int32)]) (h' := h1) zp_200 rfl ?_
    exact zQ_retI zp_200 rfl (r1'.2 c2)
theorem s_200_24 {n : Nat} {h : zH} {Q : Option Value → zH → Prop} (x1 : Int32) (x2 : Int32) (H : (((62 : Int) ≤ x2.toInt → Q (some (.int (Int32.ofInt 1))) h) ∧ (¬ ((62 : Int) ≤ x2.toInt) → (0 ≤ x2.toInt → x2.toInt < 62 → (0 ≤ (((Int32.ofInt 62) * x1) + x2).toInt → (((Int32.ofInt 62) * x1) + x2).toInt < 124 → zQ n 200 24 [some (.ref 58), some (.int x1), some (.int (x2 + Int32.ofInt 1))] [] (zSet h 72 (((Int32.ofInt 62) * x1) + x2).toInt.toNat (h.1 64 x2.toInt.toNat)) Q))))) : zQ (n + 1) 200 24 [some (.ref 58), some (.int x1), some (.int x2)] [] h Q := by
  refine zQ_seqL 1 (pc' := 27) (L' := [some (.ref 58), some (.int x1), some (.int x2)]) (S' := [.int (Int32.ofInt 62), .int x2]) (h' := h) zp_200 rfl ?_
  refine zQ_ic zp_200 rfl (t := 53) rfl (i := x2.toInt) (j := (62 : Int)) rfl kc_62 (fun c1 => ?_) (fun c1 => ?_)
  · refine zQ_seq 1 (pc' := 54) (L' := [some (.ref 58), some (.int x1), some (.int x2)]) (S' := [.int (Int32.ofInt 1)]) (h' := h) zp_200 rfl ?_
    exact zQ_retI zp_200 rfl (H.1 c1)
  · refine zQ_seq 10 (pc' := 45) (L' := [some (.ref 58), some (.int x1), some (.int x2)]) (S' := [.int x2, .ref 64, .int (((Int32.ofInt 62) * x1) + x2), .ref 72]) (h' := h) zp_200 rfl ?_
    refine zQ_ial (N := 62) (f := h.1 64) zp_200 rfl rfl rfl (fun b2 b2' => ?_)
    refine zQ_ias (N := 124) zp_200 rfl rfl rfl (fun b3 b3' => ?_)
    refine zQ_seq 1 (pc' := 50) (L' := [some (.ref 58), some (.int x1), some (.int (x2 + Int32.ofInt 1))]) (S' := []) (h' := (zSet h 72 (((Int32.ofInt 62) * x1) + x2).toInt.toNat (h.1 64 x2.toInt.toNat))) zp_200 rfl ?_
    refine zQ_goto zp_200 rfl (t := 24) rfl ?_
    exact (((H.2 c1) b2 b2') b3 b3')
theorem s_201 {h : zH} {Q : Option Value → zH → Prop} (a1 : Int32) (H : (∀ n, zqm 121 [.int a1, .int (Int32.ofInt 0), .int (Int32.ofInt 1)] h (fun rv h1 => zri rv (fun v1 => ((¬ v1.toInt = 0 → (0 ≤ (((Int32.ofInt 62) * a1) + (Int32.ofInt 61)).toInt → (((Int32.ofInt 62) * a1) + (Int32.ofInt 61)).toInt < 124 → ((¬ (h1.1 72 (((Int32.ofInt 62) * a1) + (Int32.ofInt 61)).toInt.toNat).toInt = 0 → zQ n 201 32 [some (.ref 58), some (.int a1), some (.int (Int32.ofInt 0))] [] h1 Q) ∧ (¬ (¬ (h1.1 72 (((Int32.ofInt 62) * a1) + (Int32.ofInt 61)).toInt.toNat).toInt = 0) → Q (some (.int (-1000002 : Int32))) h1)))) ∧ (¬ (¬ v1.toInt = 0) → Q (some (.int (-1000001 : Int32))) h1)))))) : zqm 201 [.ref 58, .int a1] h Q := by
  refine zqm_of zp_201 (fun n => ?_)
  have H := H n
  show zQ n 201 0 [some (.ref 58), some (.int a1), none] [] h Q
  refine zQ_seq 3 (pc' := 3) (L' := [some (.ref 58), some (.int a1), none]) (S' := [.int (Int32.ofInt 1), .int (Int32.ofInt 0), .int a1]) (h' := h) zp_201 rfl ?_
  refine zQ_csI (M' := 121) (as := [.int a1, .int (Int32.ofInt 0), .int (Int32.ofInt 1)]) (S' := []) zp_201 rfl rfl rfl zp_121 (Or.inr rfl) rfl rfl (zqm_imp H (fun rv h1 r1 => zri_imp r1 (fun v1 r1' => ?_)))
  refine zQ_if zp_201 rfl (t := 12) rfl (i := v1.toInt) rfl (fun c2 => ?_) (fun c2 => ?_)
  · refine zQ_seq 7 (pc' := 23) (L' := [some (.ref 58), some (.int a1), none]) (S' := [.int (((Int32.ofInt 62) * a1) + (Int32.ofInt 61)), .ref 72]) (h' := h1) zp_201 rfl ?_
    refine zQ_ial (N := 124) (f := h1.1 72) zp_201 rfl rfl rfl (fun b3 b3' => ?_)
    refine zQ_if zp_201 rfl (t := 30) rfl (i := (h1.1 72 (((Int32.ofInt 62) * a1) + (Int32.ofInt 61)).toInt.toNat).toInt) rfl (fun c4 => ?_) (fun c4 => ?_)
    · refine zQ_seq 2 (pc' := 32) (L' := [some (.ref 58), some (.int a1), some (.int (Int32.ofInt 0))]) (S' := []) (h' := h1) zp_201 rfl ?_
      exact (((r1'.1 c2) b3 b3').1 c4)
    · refine zQ_seq 1 (pc' := 29) (L' := [some (.ref 58), some (.int a1), none]) (S' := [.int (-1000002 : Int32)]) (h' := h1) zp_201 rfl ?_
      exact zQ_retI zp_201 rfl (((r1'.1 c2) b3 b3').2 c4)
  · refine zQ_seq 1 (pc' := 11) (L' := [some (.ref 58), some (.int a1), none]) (S' := [.int (-1000001 : Int32)]) (h' := h1) zp_201 rfl ?_
    exact zQ_retI zp_201 rfl (r1'.2 c2)
theorem s_201_32 {n : Nat} {h : zH} {Q : Option Value → zH → Prop} (x1 : Int32) (x2 : Int32) (H : (((62 : Int) ≤ x2.toInt → zqm 155 [.ref 58] (zSet h 58 12 (Int32.ofInt 0)) (fun _ h2 => Q (some (.int (Int32.ofInt 1))) h2)) ∧ (¬ ((62 : Int) ≤ x2.toInt) → (0 ≤ (((Int32.ofInt 62) * x1) + x2).toInt → (((Int32.ofInt 62) * x1) + x2).toInt < 124 → (0 ≤ x2.toInt → x2.toInt < 62 → zQ n 201 32 [some (.ref 58), some (.int x1), some (.int (x2 + Int32.ofInt 1))] [] (zSet h 64 x2.toInt.toNat (h.1 72 (((Int32.ofInt 62) * x1) + x2).toInt.toNat)) Q))))) : zQ (n + 1) 201 32 [some (.ref 58), some (.int x1), some (.int x2)] [] h Q := by
  refine zQ_seqL 1 (pc' := 35) (L' := [some (.ref 58), some (.int x1), some (.int x2)]) (S' := [.int (Int32.ofInt 62), .int x2]) (h' := h) zp_201 rfl ?_
  refine zQ_ic zp_201 rfl (t := 61) rfl (i := x2.toInt) (j := (62 : Int)) rfl kc_62 (fun c1 => ?_) (fun c1 => ?_)
  · refine zQ_seq 4 (pc' := 67) (L' := [some (.ref 58), some (.int x1), some (.int x2)]) (S' := [.ref 58]) (h' := (zSet h 58 12 (Int32.ofInt 0))) zp_201 rfl ?_
    refine zQ_cvV (M' := 155) (as := [.ref 58]) (S' := []) zp_201 rfl rfl zp_155 rfl rfl rfl (zqm_imp (H.1 c1) (fun rv h2 r2 => ?_))
    refine zQ_seq 1 (pc' := 71) (L' := [some (.ref 58), some (.int x1), some (.int x2)]) (S' := [.int (Int32.ofInt 1)]) (h' := h2) zp_201 rfl ?_
    exact zQ_retI zp_201 rfl r2
  · refine zQ_seq 10 (pc' := 53) (L' := [some (.ref 58), some (.int x1), some (.int x2)]) (S' := [.int (((Int32.ofInt 62) * x1) + x2), .ref 72, .int x2, .ref 64]) (h' := h) zp_201 rfl ?_
    refine zQ_ial (N := 124) (f := h.1 72) zp_201 rfl rfl rfl (fun b3 b3' => ?_)
    refine zQ_ias (N := 62) zp_201 rfl rfl rfl (fun b4 b4' => ?_)
    refine zQ_seq 1 (pc' := 58) (L' := [some (.ref 58), some (.int x1), some (.int (x2 + Int32.ofInt 1))]) (S' := []) (h' := (zSet h 64 x2.toInt.toNat (h.1 72 (((Int32.ofInt 62) * x1) + x2).toInt.toNat))) zp_201 rfl ?_
    refine zQ_goto zp_201 rfl (t := 32) rfl ?_
    exact (((H.2 c1) b3 b3') b4 b4')
theorem s_202 {h : zH} {Q : Option Value → zH → Prop} (a1 : Int32) (H : zqm 152 [.ref 58, .int a1] h (fun rv h1 => zri rv (fun v1 => ((v1.toInt = 0 → Q (some (.int (-1000001 : Int32))) h1) ∧ (¬ (v1.toInt = 0) → zqm 158 [.ref 58, .int a1] h1 (fun rv h3 => zri rv (fun v3 => Q (some (.int v3)) h3))))))) : zqm 202 [.ref 58, .int a1] h Q := by
  refine zqm_of zp_202 (fun n => ?_)
  show zQ n 202 0 [some (.ref 58), some (.int a1)] [] h Q
  refine zQ_seq 2 (pc' := 2) (L' := [some (.ref 58), some (.int a1)]) (S' := [.int a1, .ref 58]) (h' := h) zp_202 rfl ?_
  refine zQ_cvI (M' := 152) (as := [.ref 58, .int a1]) (S' := []) zp_202 rfl rfl zp_152 (Or.inr rfl) rfl rfl (zqm_imp H (fun rv h1 r1 => zri_imp r1 (fun v1 r1' => ?_)))
  refine zQ_if zp_202 rfl (t := 16) rfl (i := v1.toInt) rfl (fun c2 => ?_) (fun c2 => ?_)
  · refine zQ_seq 1 (pc' := 18) (L' := [some (.ref 58), some (.int a1)]) (S' := [.int (-1000001 : Int32)]) (h' := h1) zp_202 rfl ?_
    exact zQ_retI zp_202 rfl (r1'.1 c2)
  · refine zQ_seq 2 (pc' := 10) (L' := [some (.ref 58), some (.int a1)]) (S' := [.int a1, .ref 58]) (h' := h1) zp_202 rfl ?_
    refine zQ_cvI (M' := 158) (as := [.ref 58, .int a1]) (S' := []) zp_202 rfl rfl zp_158 (Or.inl rfl) rfl rfl (zqm_imp (r1'.2 c2) (fun rv h3 r3 => zri_imp r3 (fun v3 r3' => ?_)))
    refine zQ_goto zp_202 rfl (t := 18) rfl ?_
    exact zQ_retI zp_202 rfl r3'
theorem s_203 {h : zH} {Q : Option Value → zH → Prop} (a0 : Int32) (a1 : Int32) (H : ((a1.toInt = 0 → Q (some (.int (Int32.ofInt 1))) h) ∧ (¬ (a1.toInt = 0) → ((a1.toInt = a0.toInt → Q (some (.int (Int32.ofInt 1))) h) ∧ (¬ (a1.toInt = a0.toInt) → ((¬ a1.toInt = (1 : Int) → ((¬ a1.toInt = (4 : Int) → Q (some (.int (Int32.ofInt 0))) h) ∧ (¬ (¬ a1.toInt = (4 : Int)) → ((¬ a0.toInt = (5 : Int) → Q (some (.int (Int32.ofInt 0))) h) ∧ (¬ (¬ a0.toInt = (5 : Int)) → Q (some (.int (Int32.ofInt 1))) h))))) ∧ (¬ (¬ a1.toInt = (1 : Int)) → ((a0.toInt = (2 : Int) → Q (some (.int (Int32.ofInt 1))) h) ∧ (¬ (a0.toInt = (2 : Int)) → ((a0.toInt = (3 : Int) → Q (some (.int (Int32.ofInt 1))) h) ∧ (¬ (a0.toInt = (3 : Int)) → ((¬ a1.toInt = (4 : Int) → Q (some (.int (Int32.ofInt 0))) h) ∧ (¬ (¬ a1.toInt = (4 : Int)) → ((¬ a0.toInt = (5 : Int) → Q (some (.int (Int32.ofInt 0))) h) ∧ (¬ (¬ a0.toInt = (5 : Int)) → Q (some (.int (Int32.ofInt 1))) h))))))))))))))) : zqm 203 [.int a0, .int a1] h Q := by
  refine zqm_of zp_203 (fun n => ?_)
  show zQ n 203 0 [some (.int a0), some (.int a1)] [] h Q
  refine zQ_seq 1 (pc' := 1) (L' := [some (.int a0), some (.int a1)]) (S' := [.int a1]) (h' := h) zp_203 rfl ?_
  refine zQ_if zp_203 rfl (t := 34) rfl (i := a1.toInt) rfl (fun c1 => ?_) (fun c1 => ?_)
  · refine zQ_seq 1 (pc' := 35) (L' := [some (.int a0), some (.int a1)]) (S' := [.int (Int32.ofInt 1)]) (h' := h) zp_203 rfl ?_
    refine zQ_goto zp_203 rfl (t := 39) rfl ?_
    exact zQ_retI zp_203 rfl (H.1 c1)
  · refine zQ_seq 2 (pc' := 6) (L' := [some (.int a0), some (.int a1)]) (S' := [.int a0, .int a1]) (h' := h) zp_203 rfl ?_
    refine zQ_ic zp_203 rfl (t := 34) rfl (i := a1.toInt) (j := a0.toInt) rfl rfl (fun c2 => ?_) (fun c2 => ?_)
    · refine zQ_seq 1 (pc' := 35) (L' := [some (.int a0), some (.int a1)]) (S' := [.int (Int32.ofInt 1)]) (h' := h) zp_203 rfl ?_
      refine zQ_goto zp_203 rfl (t := 39) rfl ?_
      exact zQ_retI zp_203 rfl ((H.2 c1).1 c2)
    · refine zQ_seq 2 (pc' := 11) (L' := [some (.int a0), some (.int a1)]) (S' := [.int (Int32.ofInt 1), .int a1]) (h' := h) zp_203 rfl ?_
      refine zQ_ic zp_203 rfl (t := 24) rfl (i := a1.toInt) (j := (1 : Int)) rfl kc_1 (fun c3 => ?_) (fun c3 => ?_)
      · refine zQ_seq 2 (pc' := 26) (L' := [some (.int a0), some (.int a1)]) (S' := [.int (Int32.ofInt 4), .int a1]) (h' := h) zp_203 rfl ?_
        refine zQ_ic zp_203 rfl (t := 38) rfl (i := a1.toInt) (j := (4 : Int)) rfl kc_4 (fun c4 => ?_) (fun c4 => ?_)
        · refine zQ_seq 1 (pc' := 39) (L' := [some (.int a0), some (.int a1)]) (S' := [.int (Int32.ofInt 0)]) (h' := h) zp_203 rfl ?_
          exact zQ_retI zp_203 rfl ((((H.2 c1).2 c2).1 c3).1 c4)
        · refine zQ_seq 2 (pc' := 31) (L' := [some (.int a0), some (.int a1)]) (S' := [.int (Int32.ofInt 5), .int a0]) (h' := h) zp_203 rfl ?_
          refine zQ_ic zp_203 rfl (t := 38) rfl (i := a0.toInt) (j := (5 : Int)) rfl kc_5 (fun c5 => ?_) (fun c5 => ?_)
          · refine zQ_seq 1 (pc' := 39) (L' := [some (.int a0), some (.int a1)]) (S' := [.int (Int32.ofInt 0)]) (h' := h) zp_203 rfl ?_
            exact zQ_retI zp_203 rfl (((((H.2 c1).2 c2).1 c3).2 c4).1 c5)
          · refine zQ_seq 1 (pc' := 35) (L' := [some (.int a0), some (.int a1)]) (S' := [.int (Int32.ofInt 1)]) (h' := h) zp_203 rfl ?_
            refine zQ_goto zp_203 rfl (t := 39) rfl ?_
            exact zQ_retI zp_203 rfl (((((H.2 c1).2 c2).1 c3).2 c4).2 c5)
      · refine zQ_seq 2 (pc' := 16) (L' := [some (.int a0), some (.int a1)]) (S' := [.int (Int32.ofInt 2), .int a0]) (h' := h) zp_203 rfl ?_
        refine zQ_ic zp_203 rfl (t := 34) rfl (i := a0.toInt) (j := (2 : Int)) rfl kc_2 (fun c6 => ?_) (fun c6 => ?_)
        · refine zQ_seq 1 (pc' := 35) (L' := [some (.int a0), some (.int a1)]) (S' := [.int (Int32.ofInt 1)]) (h' := h) zp_203 rfl ?_
          refine zQ_goto zp_203 rfl (t := 39) rfl ?_
          exact zQ_retI zp_203 rfl ((((H.2 c1).2 c2).2 c3).1 c6)
        · refine zQ_seq 2 (pc' := 21) (L' := [some (.int a0), some (.int a1)]) (S' := [.int (Int32.ofInt 3), .int a0]) (h' := h) zp_203 rfl ?_
          refine zQ_ic zp_203 rfl (t := 34) rfl (i := a0.toInt) (j := (3 : Int)) rfl kc_3 (fun c7 => ?_) (fun c7 => ?_)
          · refine zQ_seq 1 (pc' := 35) (L' := [some (.int a0), some (.int a1)]) (S' := [.int (Int32.ofInt 1)]) (h' := h) zp_203 rfl ?_
            refine zQ_goto zp_203 rfl (t := 39) rfl ?_
            exact zQ_retI zp_203 rfl (((((H.2 c1).2 c2).2 c3).2 c6).1 c7)
          · refine zQ_seq 2 (pc' := 26) (L' := [some (.int a0), some (.int a1)]) (S' := [.int (Int32.ofInt 4), .int a1]) (h' := h) zp_203 rfl ?_
            refine zQ_ic zp_203 rfl (t := 38) rfl (i := a1.toInt) (j := (4 : Int)) rfl kc_4 (fun c8 => ?_) (fun c8 => ?_)
            · refine zQ_seq 1 (pc' := 39) (L' := [some (.int a0), some (.int a1)]) (S' := [.int (Int32.ofInt 0)]) (h' := h) zp_203 rfl ?_
              exact zQ_retI zp_203 rfl ((((((H.2 c1).2 c2).2 c3).2 c6).2 c7).1 c8)
            · refine zQ_seq 2 (pc' := 31) (L' := [some (.int a0), some (.int a1)]) (S' := [.int (Int32.ofInt 5), .int a0]) (h' := h) zp_203 rfl ?_
              refine zQ_ic zp_203 rfl (t := 38) rfl (i := a0.toInt) (j := (5 : Int)) rfl kc_5 (fun c9 => ?_) (fun c9 => ?_)
              · refine zQ_seq 1 (pc' := 39) (L' := [some (.int a0), some (.int a1)]) (S' := [.int (Int32.ofInt 0)]) (h' := h) zp_203 rfl ?_
                exact zQ_retI zp_203 rfl (((((((H.2 c1).2 c2).2 c3).2 c6).2 c7).2 c8).1 c9)
              · refine zQ_seq 1 (pc' := 35) (L' := [some (.int a0), some (.int a1)]) (S' := [.int (Int32.ofInt 1)]) (h' := h) zp_203 rfl ?_
                refine zQ_goto zp_203 rfl (t := 39) rfl ?_
                exact zQ_retI zp_203 rfl (((((((H.2 c1).2 c2).2 c3).2 c6).2 c7).2 c8).2 c9)
theorem s_204 {h : zH} {Q : Option Value → zH → Prop} (a1 : Int32) (a2 : Int32) (H : zqm 152 [.ref 58, .int a1] h (fun rv h1 => zri rv (fun v1 => ((v1.toInt = 0 → Q (some (.int (-1000001 : Int32))) h1) ∧ (¬ (v1.toInt = 0) → zqm 121 [.int a2, .int (Int32.ofInt 0), .int (Int32.ofInt 5)] h1 (fun rv h3 => zri rv (fun v3 => ((¬ v3.toInt = 0 → zqm 158 [.ref 58, .int a1] h3 (fun rv h5 => zri rv (fun v5 => zqm 203 [.int v5, .int a2] h5 (fun rv h6 => zri rv (fun v6 => ((v6.toInt = 0 → zqm 125 [.ref 58, .int (Int32.ofInt 3)] h6 (fun rv h8 => zri rv (fun v8 => Q (some (.int v8)) h8))) ∧ (¬ (v6.toInt = 0) → zqm 126 [.ref 58, .int a1] h6 (fun rv h9 => zri rv (fun v9 => Q (some (.int v9)) h9))))))))) ∧ (¬ (¬ v3.toInt = 0) → Q (some (.int (-1000001 : Int32))) h3))))))))) : zqm 204 [.ref 58, .int a1, .int a2] h Q := by
  refine zqm_of zp_204 (fun n => ?_)
  show zQ n 204 0 [some (.ref 58), some (.int a1), some (.int a2)] [] h Q
  refine zQ_seq 2 (pc' := 2) (L' := [some (.ref 58), some (.int a1), some (.int a2)]) (S' := [.int a1, .ref 58]) (h' := h) zp_204 rfl ?_
  refine zQ_cvI (M' := 152) (as := [.ref 58, .int a1]) (S' := []) zp_204 rfl rfl zp_152 (Or.inr rfl) rfl rfl (zqm_imp H (fun rv h1 r1 => zri_imp r1 (fun v1 r1' => ?_)))
  refine zQ_if zp_204 rfl (t := 17) rfl (i := v1.toInt) rfl (fun c2 => ?_) (fun c2 => ?_)
  · refine zQ_seq 1 (pc' := 19) (L' := [some (.ref 58), some (.int a1), some (.int a2)]) (S' := [.int (-1000001 : Int32)]) (h' := h1) zp_204 rfl ?_
    exact zQ_retI zp_204 rfl (r1'.1 c2)
  · refine zQ_seq 3 (pc' := 11) (L' := [some (.ref 58), some (.int a1), some (.int a2)]) (S' := [.int (Int32.ofInt 5), .int (Int32.ofInt 0), .int a2]) (h' := h1) zp_204 rfl ?_
    refine zQ_csI (M' := 121) (as := [.int a2, .int (Int32.ofInt 0), .int (Int32.ofInt 5)]) (S' := []) zp_204 rfl rfl rfl zp_121 (Or.inr rfl) rfl rfl (zqm_imp (r1'.2 c2) (fun rv h3 r3 => zri_imp r3 (fun v3 r3' => ?_)))
    refine zQ_if zp_204 rfl (t := 20) rfl (i := v3.toInt) rfl (fun c4 => ?_) (fun c4 => ?_)
    · refine zQ_seq 2 (pc' := 22) (L' := [some (.ref 58), some (.int a1), some (.int a2)]) (S' := [.int a1, .ref 58]) (h' := h3) zp_204 rfl ?_
      refine zQ_cvI (M' := 158) (as := [.ref 58, .int a1]) (S' := []) zp_204 rfl rfl zp_158 (Or.inl rfl) rfl rfl (zqm_imp (r3'.1 c4) (fun rv h5 r5 => zri_imp r5 (fun v5 r5' => ?_)))
      refine zQ_seq 1 (pc' := 26) (L' := [some (.ref 58), some (.int a1), some (.int a2)]) (S' := [.int a2, .int v5]) (h' := h5) zp_204 rfl ?_
      refine zQ_csI (M' := 203) (as := [.int v5, .int a2]) (S' := []) zp_204 rfl rfl rfl zp_203 (Or.inr rfl) rfl rfl (zqm_imp r5' (fun rv h6 r6 => zri_imp r6 (fun v6 r6' => ?_)))
      refine zQ_if zp_204 rfl (t := 40) rfl (i := v6.toInt) rfl (fun c7 => ?_) (fun c7 => ?_)
      · refine zQ_seq 2 (pc' := 42) (L' := [some (.ref 58), some (.int a1), some (.int a2)]) (S' := [.int (Int32.ofInt 3), .ref 58]) (h' := h6) zp_204 rfl ?_
        refine zQ_cvI (M' := 125) (as := [.ref 58, .int (Int32.ofInt 3)]) (S' := []) zp_204 rfl rfl zp_125 (Or.inl rfl) rfl rfl (zqm_imp (r6'.1 c7) (fun rv h8 r8 => zri_imp r8 (fun v8 r8' => ?_)))
        exact zQ_retI zp_204 rfl r8'
      · refine zQ_seq 2 (pc' := 34) (L' := [some (.ref 58), some (.int a1), some (.int a2)]) (S' := [.int a1, .ref 58]) (h' := h6) zp_204 rfl ?_
        refine zQ_cvI (M' := 126) (as := [.ref 58, .int a1]) (S' := []) zp_204 rfl rfl zp_126 (Or.inl rfl) rfl rfl (zqm_imp (r6'.2 c7) (fun rv h9 r9 => zri_imp r9 (fun v9 r9' => ?_)))
        refine zQ_goto zp_204 rfl (t := 45) rfl ?_
        exact zQ_retI zp_204 rfl r9'
    · refine zQ_seq 1 (pc' := 19) (L' := [some (.ref 58), some (.int a1), some (.int a2)]) (S' := [.int (-1000001 : Int32)]) (h' := h3) zp_204 rfl ?_
      exact zQ_retI zp_204 rfl (r3'.2 c4)
theorem s_205 {h : zH} {Q : Option Value → zH → Prop} (a1 : Int32) (H : (((16 : Int) ≤ (h.1 58 25).toInt → Q none h) ∧ (¬ ((16 : Int) ≤ (h.1 58 25).toInt) → (0 ≤ (h.1 58 25).toInt → (h.1 58 25).toInt < 16 → Q none (zSet (zSet h 73 (h.1 58 25).toInt.toNat a1) 58 25 ((h.1 58 25) + (Int32.ofInt 1))))))) : zqm 205 [.ref 58, .int a1] h Q := by
  refine zqm_of zp_205 (fun n => ?_)
  show zQ n 205 0 [some (.ref 58), some (.int a1)] [] h Q
  refine zQ_seq 3 (pc' := 6) (L' := [some (.ref 58), some (.int a1)]) (S' := [.int (Int32.ofInt 16), .int (h.1 58 25)]) (h' := h) zp_205 rfl ?_
  refine zQ_ic zp_205 rfl (t := 29) rfl (i := (h.1 58 25).toInt) (j := (16 : Int)) rfl kc_16 (fun c1 => ?_) (fun c1 => ?_)
  · exact zQ_retV zp_205 rfl (H.1 c1)
  · refine zQ_seq 5 (pc' := 18) (L' := [some (.ref 58), some (.int a1)]) (S' := [.int a1, .int (h.1 58 25), .ref 73]) (h' := h) zp_205 rfl ?_
    refine zQ_ias (N := 16) zp_205 rfl rfl rfl (fun b2 b2' => ?_)
    refine zQ_seq 6 (pc' := 29) (L' := [some (.ref 58), some (.int a1)]) (S' := []) (h' := (zSet (zSet h 73 (h.1 58 25).toInt.toNat a1) 58 25 ((h.1 58 25) + (Int32.ofInt 1)))) zp_205 rfl ?_
    exact zQ_retV zp_205 rfl ((H.2 c1) b2 b2')
theorem s_206 {h : zH} {Q : Option Value → zH → Prop} (a1 : Int32) (H : zqm 205 [.ref 58, .int (Int32.ofInt 10)] h (fun _ h1 => zqm 165 [.ref 58, .int a1] h1 (fun rv h2 => zri rv (fun v2 => Q (some (.int v2)) h2)))) : zqm 206 [.ref 58, .int a1] h Q := by
  refine zqm_of zp_206 (fun n => ?_)
  show zQ n 206 0 [some (.ref 58), some (.int a1)] [] h Q
  refine zQ_seq 2 (pc' := 3) (L' := [some (.ref 58), some (.int a1)]) (S' := [.int (Int32.ofInt 10), .ref 58]) (h' := h) zp_206 rfl ?_
  refine zQ_cvV (M' := 205) (as := [.ref 58, .int (Int32.ofInt 10)]) (S' := []) zp_206 rfl rfl zp_205 rfl rfl rfl (zqm_imp H (fun rv h1 r1 => ?_))
  refine zQ_seq 2 (pc' := 8) (L' := [some (.ref 58), some (.int a1)]) (S' := [.int a1, .ref 58]) (h' := h1) zp_206 rfl ?_
  refine zQ_cvI (M' := 165) (as := [.ref 58, .int a1]) (S' := []) zp_206 rfl rfl zp_165 (Or.inl rfl) rfl rfl (zqm_imp r1 (fun rv h2 r2 => zri_imp r2 (fun v2 r2' => ?_)))
  exact zQ_retI zp_206 rfl r2'
theorem s_207 {h : zH} {Q : Option Value → zH → Prop} (a1 : Int32) (H : zqm 205 [.ref 58, .int (Int32.ofInt 20)] h (fun _ h1 => Q (some (.int a1)) h1)) : zqm 207 [.ref 58, .int a1] h Q := by
  refine zqm_of zp_207 (fun n => ?_)
  show zQ n 207 0 [some (.ref 58), some (.int a1)] [] h Q
  refine zQ_seq 2 (pc' := 3) (L' := [some (.ref 58), some (.int a1)]) (S' := [.int (Int32.ofInt 20), .ref 58]) (h' := h) zp_207 rfl ?_
  refine zQ_cvV (M' := 205) (as := [.ref 58, .int (Int32.ofInt 20)]) (S' := []) zp_207 rfl rfl zp_205 rfl rfl rfl (zqm_imp H (fun rv h1 r1 => ?_))
  refine zQ_seq 1 (pc' := 7) (L' := [some (.ref 58), some (.int a1)]) (S' := [.int a1]) (h' := h1) zp_207 rfl ?_
  exact zQ_retI zp_207 rfl r1
theorem s_208 {h : zH} {Q : Option Value → zH → Prop} (a1 : Int32) (H : zqm 205 [.ref 58, .int (Int32.ofInt 21)] h (fun _ h1 => zqm 207 [.ref 58, .int a1] h1 (fun rv h2 => zri rv (fun v2 => zqm 160 [.ref 58, .int a1] h2 (fun rv h3 => zri rv (fun v3 => Q (some (.int (v2 + v3))) h3)))))) : zqm 208 [.ref 58, .int a1] h Q := by
  refine zqm_of zp_208 (fun n => ?_)
  show zQ n 208 0 [some (.ref 58), some (.int a1)] [] h Q
  refine zQ_seq 2 (pc' := 3) (L' := [some (.ref 58), some (.int a1)]) (S' := [.int (Int32.ofInt 21), .ref 58]) (h' := h) zp_208 rfl ?_
  refine zQ_cvV (M' := 205) (as := [.ref 58, .int (Int32.ofInt 21)]) (S' := []) zp_208 rfl rfl zp_205 rfl rfl rfl (zqm_imp H (fun rv h1 r1 => ?_))
  refine zQ_seq 2 (pc' := 8) (L' := [some (.ref 58), some (.int a1)]) (S' := [.int a1, .ref 58]) (h' := h1) zp_208 rfl ?_
  refine zQ_cvI (M' := 207) (as := [.ref 58, .int a1]) (S' := []) zp_208 rfl rfl zp_207 (Or.inl rfl) rfl rfl (zqm_imp r1 (fun rv h2 r2 => zri_imp r2 (fun v2 r2' => ?_)))
  refine zQ_seq 2 (pc' := 13) (L' := [some (.ref 58), some (.int a1)]) (S' := [.int a1, .ref 58, .int v2]) (h' := h2) zp_208 rfl ?_
  refine zQ_cvI (M' := 160) (as := [.ref 58, .int a1]) (S' := [.int v2]) zp_208 rfl rfl zp_160 (Or.inl rfl) rfl rfl (zqm_imp r2' (fun rv h3 r3 => zri_imp r3 (fun v3 r3' => ?_)))
  refine zQ_seq 1 (pc' := 17) (L' := [some (.ref 58), some (.int a1)]) (S' := [.int (v2 + v3)]) (h' := h3) zp_208 rfl ?_
  exact zQ_retI zp_208 rfl r3'
theorem s_209 {h : zH} {Q : Option Value → zH → Prop} (a1 : Int32) (H : zqm 158 [.ref 58, .int a1] h (fun rv h1 => zri rv (fun v1 => ((¬ v1.toInt = (2 : Int) → zqm 158 [.ref 58, .int a1] h1 (fun rv h3 => zri rv (fun v3 => ((¬ v3.toInt = (3 : Int) → zqm 208 [.ref 58, .int a1] h3 (fun rv h5 => zri rv (fun v5 => Q (some (.int v5)) h5))) ∧ (¬ (¬ v3.toInt = (3 : Int)) → zqm 205 [.ref 58, .int (Int32.ofInt 22)] h3 (fun _ h6 => zqm 208 [.ref 58, .int a1] h6 (fun rv h7 => zri rv (fun v7 => Q (some (.int (v7 - (Int32.ofInt 1000)))) h7)))))))) ∧ (¬ (¬ v1.toInt = (2 : Int)) → zqm 205 [.ref 58, .int (Int32.ofInt 24)] h1 (fun _ h8 => zqm 208 [.ref 58, .int a1] h8 (fun rv h9 => zri rv (fun v9 => Q (some (.int ((Int32.ofInt 2) * v9))) h9)))))))) : zqm 209 [.ref 58, .int a1] h Q := by
  refine zqm_of zp_209 (fun n => ?_)
  show zQ n 209 0 [some (.ref 58), some (.int a1)] [] h Q
  refine zQ_seq 2 (pc' := 2) (L' := [some (.ref 58), some (.int a1)]) (S' := [.int a1, .ref 58]) (h' := h) zp_209 rfl ?_
  refine zQ_cvI (M' := 158) (as := [.ref 58, .int a1]) (S' := []) zp_209 rfl rfl zp_158 (Or.inl rfl) rfl rfl (zqm_imp H (fun rv h1 r1 => zri_imp r1 (fun v1 r1' => ?_)))
  refine zQ_seq 1 (pc' := 6) (L' := [some (.ref 58), some (.int a1)]) (S' := [.int (Int32.ofInt 2), .int v1]) (h' := h1) zp_209 rfl ?_
  refine zQ_ic zp_209 rfl (t := 23) rfl (i := v1.toInt) (j := (2 : Int)) rfl kc_2 (fun c2 => ?_) (fun c2 => ?_)
  · refine zQ_seq 2 (pc' := 25) (L' := [some (.ref 58), some (.int a1)]) (S' := [.int a1, .ref 58]) (h' := h1) zp_209 rfl ?_
    refine zQ_cvI (M' := 158) (as := [.ref 58, .int a1]) (S' := []) zp_209 rfl rfl zp_158 (Or.inl rfl) rfl rfl (zqm_imp (r1'.1 c2) (fun rv h3 r3 => zri_imp r3 (fun v3 r3' => ?_)))
    refine zQ_seq 1 (pc' := 29) (L' := [some (.ref 58), some (.int a1)]) (S' := [.int (Int32.ofInt 3), .int v3]) (h' := h3) zp_209 rfl ?_
    refine zQ_ic zp_209 rfl (t := 48) rfl (i := v3.toInt) (j := (3 : Int)) rfl kc_3 (fun c4 => ?_) (fun c4 => ?_)
    · refine zQ_seq 2 (pc' := 50) (L' := [some (.ref 58), some (.int a1)]) (S' := [.int a1, .ref 58]) (h' := h3) zp_209 rfl ?_
      refine zQ_cvI (M' := 208) (as := [.ref 58, .int a1]) (S' := []) zp_209 rfl rfl zp_208 (Or.inl rfl) rfl rfl (zqm_imp (r3'.1 c4) (fun rv h5 r5 => zri_imp r5 (fun v5 r5' => ?_)))
      exact zQ_retI zp_209 rfl r5'
    · refine zQ_seq 2 (pc' := 35) (L' := [some (.ref 58), some (.int a1)]) (S' := [.int (Int32.ofInt 22), .ref 58]) (h' := h3) zp_209 rfl ?_
      refine zQ_cvV (M' := 205) (as := [.ref 58, .int (Int32.ofInt 22)]) (S' := []) zp_209 rfl rfl zp_205 rfl rfl rfl (zqm_imp (r3'.2 c4) (fun rv h6 r6 => ?_))
      refine zQ_seq 2 (pc' := 40) (L' := [some (.ref 58), some (.int a1)]) (S' := [.int a1, .ref 58]) (h' := h6) zp_209 rfl ?_
      refine zQ_cvI (M' := 208) (as := [.ref 58, .int a1]) (S' := []) zp_209 rfl rfl zp_208 (Or.inl rfl) rfl rfl (zqm_imp r6 (fun rv h7 r7 => zri_imp r7 (fun v7 r7' => ?_)))
      refine zQ_seq 2 (pc' := 47) (L' := [some (.ref 58), some (.int a1)]) (S' := [.int (v7 - (Int32.ofInt 1000))]) (h' := h7) zp_209 rfl ?_
      exact zQ_retI zp_209 rfl r7'
  · refine zQ_seq 2 (pc' := 12) (L' := [some (.ref 58), some (.int a1)]) (S' := [.int (Int32.ofInt 24), .ref 58]) (h' := h1) zp_209 rfl ?_
    refine zQ_cvV (M' := 205) (as := [.ref 58, .int (Int32.ofInt 24)]) (S' := []) zp_209 rfl rfl zp_205 rfl rfl rfl (zqm_imp (r1'.2 c2) (fun rv h8 r8 => ?_))
    refine zQ_seq 3 (pc' := 18) (L' := [some (.ref 58), some (.int a1)]) (S' := [.int a1, .ref 58, .int (Int32.ofInt 2)]) (h' := h8) zp_209 rfl ?_
    refine zQ_cvI (M' := 208) (as := [.ref 58, .int a1]) (S' := [.int (Int32.ofInt 2)]) zp_209 rfl rfl zp_208 (Or.inl rfl) rfl rfl (zqm_imp r8 (fun rv h9 r9 => zri_imp r9 (fun v9 r9' => ?_)))
    refine zQ_seq 1 (pc' := 22) (L' := [some (.ref 58), some (.int a1)]) (S' := [.int ((Int32.ofInt 2) * v9)]) (h' := h9) zp_209 rfl ?_
    exact zQ_retI zp_209 rfl r9'
theorem s_210 {h : zH} {Q : Option Value → zH → Prop} (a1 : Int32) (H : zqm 158 [.ref 58, .int a1] h (fun rv h1 => zri rv (fun v1 => ((¬ v1.toInt = (2 : Int) → (((0 : Int) = 0 → zqm 205 [.ref 58, .int (Int32.ofInt 11)] h1 (fun _ h4 => zqm 206 [.ref 58, .int a1] h4 (fun rv h5 => zri rv (fun v5 => zqm 209 [.ref 58, .int a1] h5 (fun rv h6 => zri rv (fun v6 => (((0 : Int) = 0 → Q (some (.int (v5 + v6))) h6) ∧ (¬ ((0 : Int) = 0) → Q (some (.int (-(v5 + v6)))) h6)))))))) ∧ (¬ ((0 : Int) = 0) → zqm 205 [.ref 58, .int (Int32.ofInt 12)] h1 (fun _ h8 => zqm 205 [.ref 58, .int (Int32.ofInt 11)] h8 (fun _ h9 => zqm 206 [.ref 58, .int a1] h9 (fun rv h10 => zri rv (fun v10 => zqm 209 [.ref 58, .int a1] h10 (fun rv h11 => zri rv (fun v11 => (((0 : Int) = 0 → Q (some (.int (v10 + v11))) h11) ∧ (¬ ((0 : Int) = 0) → Q (some (.int (-(v10 + v11)))) h11))))))))))) ∧ (¬ (¬ v1.toInt = (2 : Int)) → (((1 : Int) = 0 → zqm 205 [.ref 58, .int (Int32.ofInt 11)] h1 (fun _ h14 => zqm 206 [.ref 58, .int a1] h14 (fun rv h15 => zri rv (fun v15 => zqm 209 [.ref 58, .int a1] h15 (fun rv h16 => zri rv (fun v16 => (((1 : Int) = 0 → Q (some (.int (v15 + v16))) h16) ∧ (¬ ((1 : Int) = 0) → Q (some (.int (-(v15 + v16)))) h16)))))))) ∧ (¬ ((1 : Int) = 0) → zqm 205 [.ref 58, .int (Int32.ofInt 12)] h1 (fun _ h18 => zqm 205 [.ref 58, .int (Int32.ofInt 11)] h18 (fun _ h19 => zqm 206 [.ref 58, .int a1] h19 (fun rv h20 => zri rv (fun v20 => zqm 209 [.ref 58, .int a1] h20 (fun rv h21 => zri rv (fun v21 => (((1 : Int) = 0 → Q (some (.int (v20 + v21))) h21) ∧ (¬ ((1 : Int) = 0) → Q (some (.int (-(v20 + v21)))) h21))))))))))))))) : zqm 210 [.ref 58, .int a1] h Q := by
  refine zqm_of zp_210 (fun n => ?_)
  show zQ n 210 0 [some (.ref 58), some (.int a1), none, none, none] [] h Q
  refine zQ_seq 2 (pc' := 2) (L' := [some (.ref 58), some (.int a1), none, none, none]) (S' := [.int a1, .ref 58]) (h' := h) zp_210 rfl ?_
  refine zQ_cvI (M' := 158) (as := [.ref 58, .int a1]) (S' := []) zp_210 rfl rfl zp_158 (Or.inl rfl) rfl rfl (zqm_imp H (fun rv h1 r1 => zri_imp r1 (fun v1 r1' => ?_)))
  refine zQ_seq 1 (pc' := 6) (L' := [some (.ref 58), some (.int a1), none, none, none]) (S' := [.int (Int32.ofInt 2), .int v1]) (h' := h1) zp_210 rfl ?_
  refine zQ_ic zp_210 rfl (t := 13) rfl (i := v1.toInt) (j := (2 : Int)) rfl kc_2 (fun c2 => ?_) (fun c2 => ?_)
  · refine zQ_seq 3 (pc' := 16) (L' := [some (.ref 58), some (.int a1), some (.int (Int32.ofInt 0)), none, none]) (S' := [.int (Int32.ofInt 0)]) (h' := h1) zp_210 rfl ?_
    refine zQ_if zp_210 rfl (t := 25) rfl (i := (0 : Int)) kc_0 (fun c3 => ?_) (fun c3 => ?_)
    · refine zQ_seq 2 (pc' := 28) (L' := [some (.ref 58), some (.int a1), some (.int (Int32.ofInt 0)), none, none]) (S' := [.int (Int32.ofInt 11), .ref 58]) (h' := h1) zp_210 rfl ?_
      refine zQ_cvV (M' := 205) (as := [.ref 58, .int (Int32.ofInt 11)]) (S' := []) zp_210 rfl rfl zp_205 rfl rfl rfl (zqm_imp ((r1'.1 c2).1 c3) (fun rv h4 r4 => ?_))
      refine zQ_seq 2 (pc' := 33) (L' := [some (.ref 58), some (.int a1), some (.int (Int32.ofInt 0)), none, none]) (S' := [.int a1, .ref 58]) (h' := h4) zp_210 rfl ?_
      refine zQ_cvI (M' := 206) (as := [.ref 58, .int a1]) (S' := []) zp_210 rfl rfl zp_206 (Or.inl rfl) rfl rfl (zqm_imp r4 (fun rv h5 r5 => zri_imp r5 (fun v5 r5' => ?_)))
      refine zQ_seq 4 (pc' := 40) (L' := [some (.ref 58), some (.int a1), some (.int (Int32.ofInt 0)), some (.int v5), none]) (S' := [.int a1, .ref 58, .int v5]) (h' := h5) zp_210 rfl ?_
      refine zQ_cvI (M' := 209) (as := [.ref 58, .int a1]) (S' := [.int v5]) zp_210 rfl rfl zp_209 (Or.inl rfl) rfl rfl (zqm_imp r5' (fun rv h6 r6 => zri_imp r6 (fun v6 r6' => ?_)))
      refine zQ_seq 3 (pc' := 47) (L' := [some (.ref 58), some (.int a1), some (.int (Int32.ofInt 0)), some (.int v5), some (.int (v5 + v6))]) (S' := [.int (Int32.ofInt 0)]) (h' := h6) zp_210 rfl ?_
      refine zQ_if zp_210 rfl (t := 56) rfl (i := (0 : Int)) kc_0 (fun c7 => ?_) (fun c7 => ?_)
      · refine zQ_seq 1 (pc' := 58) (L' := [some (.ref 58), some (.int a1), some (.int (Int32.ofInt 0)), some (.int v5), some (.int (v5 + v6))]) (S' := [.int (v5 + v6)]) (h' := h6) zp_210 rfl ?_
        exact zQ_retI zp_210 rfl (r6'.1 c7)
      · refine zQ_seq 2 (pc' := 53) (L' := [some (.ref 58), some (.int a1), some (.int (Int32.ofInt 0)), some (.int v5), some (.int (v5 + v6))]) (S' := [.int (-(v5 + v6))]) (h' := h6) zp_210 rfl ?_
        refine zQ_goto zp_210 rfl (t := 58) rfl ?_
        exact zQ_retI zp_210 rfl (r6'.2 c7)
    · refine zQ_seq 2 (pc' := 22) (L' := [some (.ref 58), some (.int a1), some (.int (Int32.ofInt 0)), none, none]) (S' := [.int (Int32.ofInt 12), .ref 58]) (h' := h1) zp_210 rfl ?_
      refine zQ_cvV (M' := 205) (as := [.ref 58, .int (Int32.ofInt 12)]) (S' := []) zp_210 rfl rfl zp_205 rfl rfl rfl (zqm_imp ((r1'.1 c2).2 c3) (fun rv h8 r8 => ?_))
      refine zQ_seq 2 (pc' := 28) (L' := [some (.ref 58), some (.int a1), some (.int (Int32.ofInt 0)), none, none]) (S' := [.int (Int32.ofInt 11), .ref 58]) (h' := h8) zp_210 rfl ?_
      refine zQ_cvV (M' := 205) (as := [.ref 58, .int (Int32.ofInt 11)]) (S' := []) zp_210 rfl rfl zp_205 rfl rfl rfl (zqm_imp r8 (fun rv h9 r9 => ?_))
      refine zQ_seq 2 (pc' := 33) (L' := [some (.ref 58), some (.int a1), some (.int (Int32.ofInt 0)), none, none]) (S' := [.int a1, .ref 58]) (h' := h9) zp_210 rfl ?_
      refine zQ_cvI (M' := 206) (as := [.ref 58, .int a1]) (S' := []) zp_210 rfl rfl zp_206 (Or.inl rfl) rfl rfl (zqm_imp r9 (fun rv h10 r10 => zri_imp r10 (fun v10 r10' => ?_)))
      refine zQ_seq 4 (pc' := 40) (L' := [some (.ref 58), some (.int a1), some (.int (Int32.ofInt 0)), some (.int v10), none]) (S' := [.int a1, .ref 58, .int v10]) (h' := h10) zp_210 rfl ?_
      refine zQ_cvI (M' := 209) (as := [.ref 58, .int a1]) (S' := [.int v10]) zp_210 rfl rfl zp_209 (Or.inl rfl) rfl rfl (zqm_imp r10' (fun rv h11 r11 => zri_imp r11 (fun v11 r11' => ?_)))
      refine zQ_seq 3 (pc' := 47) (L' := [some (.ref 58), some (.int a1), some (.int (Int32.ofInt 0)), some (.int v10), some (.int (v10 + v11))]) (S' := [.int (Int32.ofInt 0)]) (h' := h11) zp_210 rfl ?_
      refine zQ_if zp_210 rfl (t := 56) rfl (i := (0 : Int)) kc_0 (fun c12 => ?_) (fun c12 => ?_)
      · refine zQ_seq 1 (pc' := 58) (L' := [some (.ref 58), some (.int a1), some (.int (Int32.ofInt 0)), some (.int v10), some (.int (v10 + v11))]) (S' := [.int (v10 + v11)]) (h' := h11) zp_210 rfl ?_
        exact zQ_retI zp_210 rfl (r11'.1 c12)
      · refine zQ_seq 2 (pc' := 53) (L' := [some (.ref 58), some (.int a1), some (.int (Int32.ofInt 0)), some (.int v10), some (.int (v10 + v11))]) (S' := [.int (-(v10 + v11))]) (h' := h11) zp_210 rfl ?_
        refine zQ_goto zp_210 rfl (t := 58) rfl ?_
        exact zQ_retI zp_210 rfl (r11'.2 c12)
  · refine zQ_seq 1 (pc' := 10) (L' := [some (.ref 58), some (.int a1), none, none, none]) (S' := [.int (Int32.ofInt 1)]) (h' := h1) zp_210 rfl ?_
    refine zQ_goto zp_210 rfl (t := 14) rfl ?_
    refine zQ_seq 2 (pc' := 16) (L' := [some (.ref 58), some (.int a1), some (.int (Int32.ofInt 1)), none, none]) (S' := [.int (Int32.ofInt 1)]) (h' := h1) zp_210 rfl ?_
    refine zQ_if zp_210 rfl (t := 25) rfl (i := (1 : Int)) kc_1 (fun c13 => ?_) (fun c13 => ?_)
    · refine zQ_seq 2 (pc' := 28) (L' := [some (.ref 58), some (.int a1), some (.int (Int32.ofInt 1)), none, none]) (S' := [.int (Int32.ofInt 11), .ref 58]) (h' := h1) zp_210 rfl ?_
      refine zQ_cvV (M' := 205) (as := [.ref 58, .int (Int32.ofInt 11)]) (S' := []) zp_210 rfl rfl zp_205 rfl rfl rfl (zqm_imp ((r1'.2 c2).1 c13) (fun rv h14 r14 => ?_))
      refine zQ_seq 2 (pc' := 33) (L' := [some (.ref 58), some (.int a1), some (.int (Int32.ofInt 1)), none, none]) (S' := [.int a1, .ref 58]) (h' := h14) zp_210 rfl ?_
      refine zQ_cvI (M' := 206) (as := [.ref 58, .int a1]) (S' := []) zp_210 rfl rfl zp_206 (Or.inl rfl) rfl rfl (zqm_imp r14 (fun rv h15 r15 => zri_imp r15 (fun v15 r15' => ?_)))
      refine zQ_seq 4 (pc' := 40) (L' := [some (.ref 58), some (.int a1), some (.int (Int32.ofInt 1)), some (.int v15), none]) (S' := [.int a1, .ref 58, .int v15]) (h' := h15) zp_210 rfl ?_
      refine zQ_cvI (M' := 209) (as := [.ref 58, .int a1]) (S' := [.int v15]) zp_210 rfl rfl zp_209 (Or.inl rfl) rfl rfl (zqm_imp r15' (fun rv h16 r16 => zri_imp r16 (fun v16 r16' => ?_)))
      refine zQ_seq 3 (pc' := 47) (L' := [some (.ref 58), some (.int a1), some (.int (Int32.ofInt 1)), some (.int v15), some (.int (v15 + v16))]) (S' := [.int (Int32.ofInt 1)]) (h' := h16) zp_210 rfl ?_
      refine zQ_if zp_210 rfl (t := 56) rfl (i := (1 : Int)) kc_1 (fun c17 => ?_) (fun c17 => ?_)
      · refine zQ_seq 1 (pc' := 58) (L' := [some (.ref 58), some (.int a1), some (.int (Int32.ofInt 1)), some (.int v15), some (.int (v15 + v16))]) (S' := [.int (v15 + v16)]) (h' := h16) zp_210 rfl ?_
        exact zQ_retI zp_210 rfl (r16'.1 c17)
      · refine zQ_seq 2 (pc' := 53) (L' := [some (.ref 58), some (.int a1), some (.int (Int32.ofInt 1)), some (.int v15), some (.int (v15 + v16))]) (S' := [.int (-(v15 + v16))]) (h' := h16) zp_210 rfl ?_
        refine zQ_goto zp_210 rfl (t := 58) rfl ?_
        exact zQ_retI zp_210 rfl (r16'.2 c17)
    · refine zQ_seq 2 (pc' := 22) (L' := [some (.ref 58), some (.int a1), some (.int (Int32.ofInt 1)), none, none]) (S' := [.int (Int32.ofInt 12), .ref 58]) (h' := h1) zp_210 rfl ?_
      refine zQ_cvV (M' := 205) (as := [.ref 58, .int (Int32.ofInt 12)]) (S' := []) zp_210 rfl rfl zp_205 rfl rfl rfl (zqm_imp ((r1'.2 c2).2 c13) (fun rv h18 r18 => ?_))
      refine zQ_seq 2 (pc' := 28) (L' := [some (.ref 58), some (.int a1), some (.int (Int32.ofInt 1)), none, none]) (S' := [.int (Int32.ofInt 11), .ref 58]) (h' := h18) zp_210 rfl ?_
      refine zQ_cvV (M' := 205) (as := [.ref 58, .int (Int32.ofInt 11)]) (S' := []) zp_210 rfl rfl zp_205 rfl rfl rfl (zqm_imp r18 (fun rv h19 r19 => ?_))
      refine zQ_seq 2 (pc' := 33) (L' := [some (.ref 58), some (.int a1), some (.int (Int32.ofInt 1)), none, none]) (S' := [.int a1, .ref 58]) (h' := h19) zp_210 rfl ?_
      refine zQ_cvI (M' := 206) (as := [.ref 58, .int a1]) (S' := []) zp_210 rfl rfl zp_206 (Or.inl rfl) rfl rfl (zqm_imp r19 (fun rv h20 r20 => zri_imp r20 (fun v20 r20' => ?_)))
      refine zQ_seq 4 (pc' := 40) (L' := [some (.ref 58), some (.int a1), some (.int (Int32.ofInt 1)), some (.int v20), none]) (S' := [.int a1, .ref 58, .int v20]) (h' := h20) zp_210 rfl ?_
      refine zQ_cvI (M' := 209) (as := [.ref 58, .int a1]) (S' := [.int v20]) zp_210 rfl rfl zp_209 (Or.inl rfl) rfl rfl (zqm_imp r20' (fun rv h21 r21 => zri_imp r21 (fun v21 r21' => ?_)))
      refine zQ_seq 3 (pc' := 47) (L' := [some (.ref 58), some (.int a1), some (.int (Int32.ofInt 1)), some (.int v20), some (.int (v20 + v21))]) (S' := [.int (Int32.ofInt 1)]) (h' := h21) zp_210 rfl ?_
      refine zQ_if zp_210 rfl (t := 56) rfl (i := (1 : Int)) kc_1 (fun c22 => ?_) (fun c22 => ?_)
      · refine zQ_seq 1 (pc' := 58) (L' := [some (.ref 58), some (.int a1), some (.int (Int32.ofInt 1)), some (.int v20), some (.int (v20 + v21))]) (S' := [.int (v20 + v21)]) (h' := h21) zp_210 rfl ?_
        exact zQ_retI zp_210 rfl (r21'.1 c22)
      · refine zQ_seq 2 (pc' := 53) (L' := [some (.ref 58), some (.int a1), some (.int (Int32.ofInt 1)), some (.int v20), some (.int (v20 + v21))]) (S' := [.int (-(v20 + v21))]) (h' := h21) zp_210 rfl ?_
        refine zQ_goto zp_210 rfl (t := 58) rfl ?_
        exact zQ_retI zp_210 rfl (r21'.2 c22)
theorem s_211 {h : zH} {Q : Option Value → zH → Prop} (a1 : Int32) (H : zqm 158 [.ref 58, .int a1] h (fun rv h1 => zri rv (fun v1 => ((¬ v1.toInt = (5 : Int) → (((0 : Int) = 0 → zqm 205 [.ref 58, .int (Int32.ofInt 13)] h1 (fun _ h4 => zqm 206 [.ref 58, .int a1] h4 (fun rv h5 => zri rv (fun v5 => (((0 : Int) = 0 → Q (some (.int (v5 - (Int32.ofInt 100)))) h5) ∧ (¬ ((0 : Int) = 0) → Q (some (.int ((Int32.ofInt 2) * (v5 - (Int32.ofInt 100))))) h5)))))) ∧ (¬ ((0 : Int) = 0) → zqm 205 [.ref 58, .int (Int32.ofInt 14)] h1 (fun _ h7 => zqm 205 [.ref 58, .int (Int32.ofInt 13)] h7 (fun _ h8 => zqm 206 [.ref 58, .int a1] h8 (fun rv h9 => zri rv (fun v9 => (((0 : Int) = 0 → Q (some (.int (v9 - (Int32.ofInt 100)))) h9) ∧ (¬ ((0 : Int) = 0) → Q (some (.int ((Int32.ofInt 2) * (v9 - (Int32.ofInt 100))))) h9))))))))) ∧ (¬ (¬ v1.toInt = (5 : Int)) → (((1 : Int) = 0 → zqm 205 [.ref 58, .int (Int32.ofInt 13)] h1 (fun _ h12 => zqm 206 [.ref 58, .int a1] h12 (fun rv h13 => zri rv (fun v13 => (((1 : Int) = 0 → Q (some (.int (v13 - (Int32.ofInt 100)))) h13) ∧ (¬ ((1 : Int) = 0) → Q (some (.int ((Int32.ofInt 2) * (v13 - (Int32.ofInt 100))))) h13)))))) ∧ (¬ ((1 : Int) = 0) → zqm 205 [.ref 58, .int (Int32.ofInt 14)] h1 (fun _ h15 => zqm 205 [.ref 58, .int (Int32.ofInt 13)] h15 (fun _ h16 => zqm 206 [.ref 58, .int a1] h16 (fun rv h17 => zri rv (fun v17 => (((1 : Int) = 0 → Q (some (.int (v17 - (Int32.ofInt 100)))) h17) ∧ (¬ ((1 : Int) = 0) → Q (some (.int ((Int32.ofInt 2) * (v17 - (Int32.ofInt 100))))) h17))))))))))))) : zqm 211 [.ref 58, .int a1] h Q := by
  refine zqm_of zp_211 (fun n => ?_)
  show zQ n 211 0 [some (.ref 58), some (.int a1), none, none] [] h Q
  refine zQ_seq 2 (pc' := 2) (L' := [some (.ref 58), some (.int a1), none, none]) (S' := [.int a1, .ref 58]) (h' := h) zp_211 rfl ?_
  refine zQ_cvI (M' := 158) (as := [.ref 58, .int a1]) (S' := []) zp_211 rfl rfl zp_158 (Or.inl rfl) rfl rfl (zqm_imp H (fun rv h1 r1 => zri_imp r1 (fun v1 r1' => ?_)))
  refine zQ_seq 1 (pc' := 6) (L' := [some (.ref 58), some (.int a1), none, none]) (S' := [.int (Int32.ofInt 5), .int v1]) (h' := h1) zp_211 rfl ?_
  refine zQ_ic zp_211 rfl (t := 13) rfl (i := v1.toInt) (j := (5 : Int)) rfl kc_5 (fun c2 => ?_) (fun c2 => ?_)
  · refine zQ_seq 3 (pc' := 16) (L' := [some (.ref 58), some (.int a1), some (.int (Int32.ofInt 0)), none]) (S' := [.int (Int32.ofInt 0)]) (h' := h1) zp_211 rfl ?_
    refine zQ_if zp_211 rfl (t := 25) rfl (i := (0 : Int)) kc_0 (fun c3 => ?_) (fun c3 => ?_)
    · refine zQ_seq 2 (pc' := 28) (L' := [some (.ref 58), some (.int a1), some (.int (Int32.ofInt 0)), none]) (S' := [.int (Int32.ofInt 13), .ref 58]) (h' := h1) zp_211 rfl ?_
      refine zQ_cvV (M' := 205) (as := [.ref 58, .int (Int32.ofInt 13)]) (S' := []) zp_211 rfl rfl zp_205 rfl rfl rfl (zqm_imp ((r1'.1 c2).1 c3) (fun rv h4 r4 => ?_))
      refine zQ_seq 2 (pc' := 33) (L' := [some (.ref 58), some (.int a1), some (.int (Int32.ofInt 0)), none]) (S' := [.int a1, .ref 58]) (h' := h4) zp_211 rfl ?_
      refine zQ_cvI (M' := 206) (as := [.ref 58, .int a1]) (S' := []) zp_211 rfl rfl zp_206 (Or.inl rfl) rfl rfl (zqm_imp r4 (fun rv h5 r5 => zri_imp r5 (fun v5 r5' => ?_)))
      refine zQ_seq 4 (pc' := 41) (L' := [some (.ref 58), some (.int a1), some (.int (Int32.ofInt 0)), some (.int (v5 - (Int32.ofInt 100)))]) (S' := [.int (Int32.ofInt 0)]) (h' := h5) zp_211 rfl ?_
      refine zQ_if zp_211 rfl (t := 50) rfl (i := (0 : Int)) kc_0 (fun c6 => ?_) (fun c6 => ?_)
      · refine zQ_seq 1 (pc' := 51) (L' := [some (.ref 58), some (.int a1), some (.int (Int32.ofInt 0)), some (.int (v5 - (Int32.ofInt 100)))]) (S' := [.int (v5 - (Int32.ofInt 100))]) (h' := h5) zp_211 rfl ?_
        exact zQ_retI zp_211 rfl (r5'.1 c6)
      · refine zQ_seq 3 (pc' := 47) (L' := [some (.ref 58), some (.int a1), some (.int (Int32.ofInt 0)), some (.int (v5 - (Int32.ofInt 100)))]) (S' := [.int ((Int32.ofInt 2) * (v5 - (Int32.ofInt 100)))]) (h' := h5) zp_211 rfl ?_
        refine zQ_goto zp_211 rfl (t := 51) rfl ?_
        exact zQ_retI zp_211 rfl (r5'.2 c6)
    · refine zQ_seq 2 (pc' := 22) (L' := [some (.ref 58), some (.int a1), some (.int (Int32.ofInt 0)), none]) (S' := [.int (Int32.ofInt 14), .ref 58]) (h' := h1) zp_211 rfl ?_
      refine zQ_cvV (M' := 205) (as := [.ref 58, .int (Int32.ofInt 14)]) (S' := []) zp_211 rfl rfl zp_205 rfl rfl rfl (zqm_imp ((r1'.1 c2).2 c3) (fun rv h7 r7 => ?_))
      refine zQ_seq 2 (pc' := 28) (L' := [some (.ref 58), some (.int a1), some (.int (Int32.ofInt 0)), none]) (S' := [.int (Int32.ofInt 13), .ref 58]) (h' := h7) zp_211 rfl ?_
      refine zQ_cvV (M' := 205) (as := [.ref 58, .int (Int32.ofInt 13)]) (S' := []) zp_211 rfl rfl zp_205 rfl rfl rfl (zqm_imp r7 (fun rv h8 r8 => ?_))
      refine zQ_seq 2 (pc' := 33) (L' := [some (.ref 58), some (.int a1), some (.int (Int32.ofInt 0)), none]) (S' := [.int a1, .ref 58]) (h' := h8) zp_211 rfl ?_
      refine zQ_cvI (M' := 206) (as := [.ref 58, .int a1]) (S' := []) zp_211 rfl rfl zp_206 (Or.inl rfl) rfl rfl (zqm_imp r8 (fun rv h9 r9 => zri_imp r9 (fun v9 r9' => ?_)))
      refine zQ_seq 4 (pc' := 41) (L' := [some (.ref 58), some (.int a1), some (.int (Int32.ofInt 0)), some (.int (v9 - (Int32.ofInt 100)))]) (S' := [.int (Int32.ofInt 0)]) (h' := h9) zp_211 rfl ?_
      refine zQ_if zp_211 rfl (t := 50) rfl (i := (0 : Int)) kc_0 (fun c10 => ?_) (fun c10 => ?_)
      · refine zQ_seq 1 (pc' := 51) (L' := [some (.ref 58), some (.int a1), some (.int (Int32.ofInt 0)), some (.int (v9 - (Int32.ofInt 100)))]) (S' := [.int (v9 - (Int32.ofInt 100))]) (h' := h9) zp_211 rfl ?_
        exact zQ_retI zp_211 rfl (r9'.1 c10)
      · refine zQ_seq 3 (pc' := 47) (L' := [some (.ref 58), some (.int a1), some (.int (Int32.ofInt 0)), some (.int (v9 - (Int32.ofInt 100)))]) (S' := [.int ((Int32.ofInt 2) * (v9 - (Int32.ofInt 100)))]) (h' := h9) zp_211 rfl ?_
        refine zQ_goto zp_211 rfl (t := 51) rfl ?_
        exact zQ_retI zp_211 rfl (r9'.2 c10)
  · refine zQ_seq 1 (pc' := 10) (L' := [some (.ref 58), some (.int a1), none, none]) (S' := [.int (Int32.ofInt 1)]) (h' := h1) zp_211 rfl ?_
    refine zQ_goto zp_211 rfl (t := 14) rfl ?_
    refine zQ_seq 2 (pc' := 16) (L' := [some (.ref 58), some (.int a1), some (.int (Int32.ofInt 1)), none]) (S' := [.int (Int32.ofInt 1)]) (h' := h1) zp_211 rfl ?_
    refine zQ_if zp_211 rfl (t := 25) rfl (i := (1 : Int)) kc_1 (fun c11 => ?_) (fun c11 => ?_)
    · refine zQ_seq 2 (pc' := 28) (L' := [some (.ref 58), some (.int a1), some (.int (Int32.ofInt 1)), none]) (S' := [.int (Int32.ofInt 13), .ref 58]) (h' := h1) zp_211 rfl ?_
      refine zQ_cvV (M' := 205) (as := [.ref 58, .int (Int32.ofInt 13)]) (S' := []) zp_211 rfl rfl zp_205 rfl rfl rfl (zqm_imp ((r1'.2 c2).1 c11) (fun rv h12 r12 => ?_))
      refine zQ_seq 2 (pc' := 33) (L' := [some (.ref 58), some (.int a1), some (.int (Int32.ofInt 1)), none]) (S' := [.int a1, .ref 58]) (h' := h12) zp_211 rfl ?_
      refine zQ_cvI (M' := 206) (as := [.ref 58, .int a1]) (S' := []) zp_211 rfl rfl zp_206 (Or.inl rfl) rfl rfl (zqm_imp r12 (fun rv h13 r13 => zri_imp r13 (fun v13 r13' => ?_)))
      refine zQ_seq 4 (pc' := 41) (L' := [some (.ref 58), some (.int a1), some (.int (Int32.ofInt 1)), some (.int (v13 - (Int32.ofInt 100)))]) (S' := [.int (Int32.ofInt 1)]) (h' := h13) zp_211 rfl ?_
      refine zQ_if zp_211 rfl (t := 50) rfl (i := (1 : Int)) kc_1 (fun c14 => ?_) (fun c14 => ?_)
      · refine zQ_seq 1 (pc' := 51) (L' := [some (.ref 58), some (.int a1), some (.int (Int32.ofInt 1)), some (.int (v13 - (Int32.ofInt 100)))]) (S' := [.int (v13 - (Int32.ofInt 100))]) (h' := h13) zp_211 rfl ?_
        exact zQ_retI zp_211 rfl (r13'.1 c14)
      · refine zQ_seq 3 (pc' := 47) (L' := [some (.ref 58), some (.int a1), some (.int (Int32.ofInt 1)), some (.int (v13 - (Int32.ofInt 100)))]) (S' := [.int ((Int32.ofInt 2) * (v13 - (Int32.ofInt 100)))]) (h' := h13) zp_211 rfl ?_
        refine zQ_goto zp_211 rfl (t := 51) rfl ?_
        exact zQ_retI zp_211 rfl (r13'.2 c14)
    · refine zQ_seq 2 (pc' := 22) (L' := [some (.ref 58), some (.int a1), some (.int (Int32.ofInt 1)), none]) (S' := [.int (Int32.ofInt 14), .ref 58]) (h' := h1) zp_211 rfl ?_
      refine zQ_cvV (M' := 205) (as := [.ref 58, .int (Int32.ofInt 14)]) (S' := []) zp_211 rfl rfl zp_205 rfl rfl rfl (zqm_imp ((r1'.2 c2).2 c11) (fun rv h15 r15 => ?_))
      refine zQ_seq 2 (pc' := 28) (L' := [some (.ref 58), some (.int a1), some (.int (Int32.ofInt 1)), none]) (S' := [.int (Int32.ofInt 13), .ref 58]) (h' := h15) zp_211 rfl ?_
      refine zQ_cvV (M' := 205) (as := [.ref 58, .int (Int32.ofInt 13)]) (S' := []) zp_211 rfl rfl zp_205 rfl rfl rfl (zqm_imp r15 (fun rv h16 r16 => ?_))
      refine zQ_seq 2 (pc' := 33) (L' := [some (.ref 58), some (.int a1), some (.int (Int32.ofInt 1)), none]) (S' := [.int a1, .ref 58]) (h' := h16) zp_211 rfl ?_
      refine zQ_cvI (M' := 206) (as := [.ref 58, .int a1]) (S' := []) zp_211 rfl rfl zp_206 (Or.inl rfl) rfl rfl (zqm_imp r16 (fun rv h17 r17 => zri_imp r17 (fun v17 r17' => ?_)))
      refine zQ_seq 4 (pc' := 41) (L' := [some (.ref 58), some (.int a1), some (.int (Int32.ofInt 1)), some (.int (v17 - (Int32.ofInt 100)))]) (S' := [.int (Int32.ofInt 1)]) (h' := h17) zp_211 rfl ?_
      refine zQ_if zp_211 rfl (t := 50) rfl (i := (1 : Int)) kc_1 (fun c18 => ?_) (fun c18 => ?_)
      · refine zQ_seq 1 (pc' := 51) (L' := [some (.ref 58), some (.int a1), some (.int (Int32.ofInt 1)), some (.int (v17 - (Int32.ofInt 100)))]) (S' := [.int (v17 - (Int32.ofInt 100))]) (h' := h17) zp_211 rfl ?_
        exact zQ_retI zp_211 rfl (r17'.1 c18)
      · refine zQ_seq 3 (pc' := 47) (L' := [some (.ref 58), some (.int a1), some (.int (Int32.ofInt 1)), some (.int (v17 - (Int32.ofInt 100)))]) (S' := [.int ((Int32.ofInt 2) * (v17 - (Int32.ofInt 100)))]) (h' := h17) zp_211 rfl ?_
        refine zQ_goto zp_211 rfl (t := 51) rfl ?_
        exact zQ_retI zp_211 rfl (r17'.2 c18)
theorem s_212 {h : zH} {Q : Option Value → zH → Prop} (a1 : Int32) (H : zqm 205 [.ref 58, .int (Int32.ofInt 23)] h (fun _ h1 => zqm 207 [.ref 58, .int a1] h1 (fun rv h2 => zri rv (fun v2 => zqm 211 [.ref 58, .int a1] h2 (fun rv h3 => zri rv (fun v3 => Q (some (.int (v2 - v3))) h3)))))) : zqm 212 [.ref 58, .int a1] h Q := by
  refine zqm_of zp_212 (fun n => ?_)
  show zQ n 212 0 [some (.ref 58), some (.int a1), none] [] h Q
  refine zQ_seq 2 (pc' := 3) (L' := [some (.ref 58), some (.int a1), none]) (S' := [.int (Int32.ofInt 23), .ref 58]) (h' := h) zp_212 rfl ?_
  refine zQ_cvV (M' := 205) (as := [.ref 58, .int (Int32.ofInt 23)]) (S' := []) zp_212 rfl rfl zp_205 rfl rfl rfl (zqm_imp H (fun rv h1 r1 => ?_))
  refine zQ_seq 2 (pc' := 8) (L' := [some (.ref 58), some (.int a1), none]) (S' := [.int a1, .ref 58]) (h' := h1) zp_212 rfl ?_
  refine zQ_cvI (M' := 207) (as := [.ref 58, .int a1]) (S' := []) zp_212 rfl rfl zp_207 (Or.inl rfl) rfl rfl (zqm_imp r1 (fun rv h2 r2 => zri_imp r2 (fun v2 r2' => ?_)))
  refine zQ_seq 4 (pc' := 15) (L' := [some (.ref 58), some (.int a1), some (.int v2)]) (S' := [.int a1, .ref 58, .int v2]) (h' := h2) zp_212 rfl ?_
  refine zQ_cvI (M' := 211) (as := [.ref 58, .int a1]) (S' := [.int v2]) zp_212 rfl rfl zp_211 (Or.inl rfl) rfl rfl (zqm_imp r2' (fun rv h3 r3 => zri_imp r3 (fun v3 r3' => ?_)))
  refine zQ_seq 1 (pc' := 19) (L' := [some (.ref 58), some (.int a1), some (.int v2)]) (S' := [.int (v2 - v3)]) (h' := h3) zp_212 rfl ?_
  exact zQ_retI zp_212 rfl r3'
theorem s_213 {h : zH} {Q : Option Value → zH → Prop} (a1 : Int32) (a2 : Int32) (H : zqm 152 [.ref 58, .int a1] h (fun rv h1 => zri rv (fun v1 => ((v1.toInt = 0 → Q (some (.int (-1000001 : Int32))) h1) ∧ (¬ (v1.toInt = 0) → zqm 121 [.int a2, .int (Int32.ofInt 0), .int (Int32.ofInt 1)] h1 (fun rv h3 => zri rv (fun v3 => ((¬ v3.toInt = 0 → zqm 158 [.ref 58, .int a1] (zSet h3 58 25 (Int32.ofInt 0)) (fun rv h5 => zri rv (fun v5 => ((v5.toInt < (4 : Int) → ((¬ a2.toInt = 0 → (((0 : Int) = 0 → zqm 209 [.ref 58, .int a1] h5 (fun rv h9 => zri rv (fun v9 => Q (some (.int v9)) h9))) ∧ (¬ ((0 : Int) = 0) → zqm 212 [.ref 58, .int a1] h5 (fun rv h10 => zri rv (fun v10 => Q (some (.int v10)) h10))))) ∧ (¬ (¬ a2.toInt = 0) → (((0 : Int) = 0 → zqm 210 [.ref 58, .int a1] h5 (fun rv h12 => zri rv (fun v12 => Q (some (.int v12)) h12))) ∧ (¬ ((0 : Int) = 0) → zqm 211 [.ref 58, .int a1] h5 (fun rv h13 => zri rv (fun v13 => Q (some (.int v13)) h13))))))) ∧ (¬ (v5.toInt < (4 : Int)) → ((¬ a2.toInt = 0 → (((1 : Int) = 0 → zqm 209 [.ref 58, .int a1] h5 (fun rv h16 => zri rv (fun v16 => Q (some (.int v16)) h16))) ∧ (¬ ((1 : Int) = 0) → zqm 212 [.ref 58, .int a1] h5 (fun rv h17 => zri rv (fun v17 => Q (some (.int v17)) h17))))) ∧ (¬ (¬ a2.toInt = 0) → (((1 : Int) = 0 → zqm 210 [.ref 58, .int a1] h5 (fun rv h19 => zri rv (fun v19 => Q (some (.int v19)) h19))) ∧ (¬ ((1 : Int) = 0) → zqm 211 [.ref 58, .int a1] h5 (fun rv h20 => zri rv (fun v20 => Q (some (.int v20)) h20))))))))))) ∧ (¬ (¬ v3.toInt = 0) → Q (some (.int (-1000001 : Int32))) h3))))))))) : zqm 213 [.ref 58, .int a1, .int a2] h Q := by
  refine zqm_of zp_213 (fun n => ?_)
  show zQ n 213 0 [some (.ref 58), some (.int a1), some (.int a2), none] [] h Q
  refine zQ_seq 2 (pc' := 2) (L' := [some (.ref 58), some (.int a1), some (.int a2), none]) (S' := [.int a1, .ref 58]) (h' := h) zp_213 rfl ?_
  refine zQ_cvI (M' := 152) (as := [.ref 58, .int a1]) (S' := []) zp_213 rfl rfl zp_152 (Or.inr rfl) rfl rfl (zqm_imp H (fun rv h1 r1 => zri_imp r1 (fun v1 r1' => ?_)))
  refine zQ_if zp_213 rfl (t := 17) rfl (i := v1.toInt) rfl (fun c2 => ?_) (fun c2 => ?_)
  · refine zQ_seq 1 (pc' := 19) (L' := [some (.ref 58), some (.int a1), some (.int a2), none]) (S' := [.int (-1000001 : Int32)]) (h' := h1) zp_213 rfl ?_
    exact zQ_retI zp_213 rfl (r1'.1 c2)
  · refine zQ_seq 3 (pc' := 11) (L' := [some (.ref 58), some (.int a1), some (.int a2), none]) (S' := [.int (Int32.ofInt 1), .int (Int32.ofInt 0), .int a2]) (h' := h1) zp_213 rfl ?_
    refine zQ_csI (M' := 121) (as := [.int a2, .int (Int32.ofInt 0), .int (Int32.ofInt 1)]) (S' := []) zp_213 rfl rfl rfl zp_121 (Or.inr rfl) rfl rfl (zqm_imp (r1'.2 c2) (fun rv h3 r3 => zri_imp r3 (fun v3 r3' => ?_)))
    refine zQ_if zp_213 rfl (t := 20) rfl (i := v3.toInt) rfl (fun c4 => ?_) (fun c4 => ?_)
    · refine zQ_seq 5 (pc' := 27) (L' := [some (.ref 58), some (.int a1), some (.int a2), none]) (S' := [.int a1, .ref 58]) (h' := (zSet h3 58 25 (Int32.ofInt 0))) zp_213 rfl ?_
      refine zQ_cvI (M' := 158) (as := [.ref 58, .int a1]) (S' := []) zp_213 rfl rfl zp_158 (Or.inl rfl) rfl rfl (zqm_imp (r3'.1 c4) (fun rv h5 r5 => zri_imp r5 (fun v5 r5' => ?_)))
      refine zQ_seq 1 (pc' := 31) (L' := [some (.ref 58), some (.int a1), some (.int a2), none]) (S' := [.int (Int32.ofInt 4), .int v5]) (h' := h5) zp_213 rfl ?_
      refine zQ_ic zp_213 rfl (t := 38) rfl (i := v5.toInt) (j := (4 : Int)) rfl kc_4 (fun c6 => ?_) (fun c6 => ?_)
      · refine zQ_seq 3 (pc' := 41) (L' := [some (.ref 58), some (.int a1), some (.int a2), some (.int (Int32.ofInt 0))]) (S' := [.int a2]) (h' := h5) zp_213 rfl ?_
        refine zQ_if zp_213 rfl (t := 64) rfl (i := a2.toInt) rfl (fun c7 => ?_) (fun c7 => ?_)
        · refine zQ_seq 1 (pc' := 65) (L' := [some (.ref 58), some (.int a1), some (.int a2), some (.int (Int32.ofInt 0))]) (S' := [.int (Int32.ofInt 0)]) (h' := h5) zp_213 rfl ?_
          refine zQ_if zp_213 rfl (t := 76) rfl (i := (0 : Int)) kc_0 (fun c8 => ?_) (fun c8 => ?_)
          · refine zQ_seq 2 (pc' := 78) (L' := [some (.ref 58), some (.int a1), some (.int a2), some (.int (Int32.ofInt 0))]) (S' := [.int a1, .ref 58]) (h' := h5) zp_213 rfl ?_
            refine zQ_cvI (M' := 209) (as := [.ref 58, .int a1]) (S' := []) zp_213 rfl rfl zp_209 (Or.inl rfl) rfl rfl (zqm_imp (((r5'.1 c6).1 c7).1 c8) (fun rv h9 r9 => zri_imp r9 (fun v9 r9' => ?_)))
            exact zQ_retI zp_213 rfl r9'
          · refine zQ_seq 2 (pc' := 70) (L' := [some (.ref 58), some (.int a1), some (.int a2), some (.int (Int32.ofInt 0))]) (S' := [.int a1, .ref 58]) (h' := h5) zp_213 rfl ?_
            refine zQ_cvI (M' := 212) (as := [.ref 58, .int a1]) (S' := []) zp_213 rfl rfl zp_212 (Or.inl rfl) rfl rfl (zqm_imp (((r5'.1 c6).1 c7).2 c8) (fun rv h10 r10 => zri_imp r10 (fun v10 r10' => ?_)))
            refine zQ_goto zp_213 rfl (t := 81) rfl ?_
            exact zQ_retI zp_213 rfl r10'
        · refine zQ_seq 1 (pc' := 45) (L' := [some (.ref 58), some (.int a1), some (.int a2), some (.int (Int32.ofInt 0))]) (S' := [.int (Int32.ofInt 0)]) (h' := h5) zp_213 rfl ?_
          refine zQ_if zp_213 rfl (t := 56) rfl (i := (0 : Int)) kc_0 (fun c11 => ?_) (fun c11 => ?_)
          · refine zQ_seq 2 (pc' := 58) (L' := [some (.ref 58), some (.int a1), some (.int a2), some (.int (Int32.ofInt 0))]) (S' := [.int a1, .ref 58]) (h' := h5) zp_213 rfl ?_
            refine zQ_cvI (M' := 210) (as := [.ref 58, .int a1]) (S' := []) zp_213 rfl rfl zp_210 (Or.inl rfl) rfl rfl (zqm_imp (((r5'.1 c6).2 c7).1 c11) (fun rv h12 r12 => zri_imp r12 (fun v12 r12' => ?_)))
            refine zQ_goto zp_213 rfl (t := 81) rfl ?_
            exact zQ_retI zp_213 rfl r12'
          · refine zQ_seq 2 (pc' := 50) (L' := [some (.ref 58), some (.int a1), some (.int a2), some (.int (Int32.ofInt 0))]) (S' := [.int a1, .ref 58]) (h' := h5) zp_213 rfl ?_
            refine zQ_cvI (M' := 211) (as := [.ref 58, .int a1]) (S' := []) zp_213 rfl rfl zp_211 (Or.inl rfl) rfl rfl (zqm_imp (((r5'.1 c6).2 c7).2 c11) (fun rv h13 r13 => zri_imp r13 (fun v13 r13' => ?_)))
            refine zQ_goto zp_213 rfl (t := 81) rfl ?_
            exact zQ_retI zp_213 rfl r13'
      · refine zQ_seq 1 (pc' := 35) (L' := [some (.ref 58), some (.int a1), some (.int a2), none]) (S' := [.int (Int32.ofInt 1)]) (h' := h5) zp_213 rfl ?_
        refine zQ_goto zp_213 rfl (t := 39) rfl ?_
        refine zQ_seq 2 (pc' := 41) (L' := [some (.ref 58), some (.int a1), some (.int a2), some (.int (Int32.ofInt 1))]) (S' := [.int a2]) (h' := h5) zp_213 rfl ?_
        refine zQ_if zp_213 rfl (t := 64) rfl (i := a2.toInt) rfl (fun c14 => ?_) (fun c14 => ?_)
        · refine zQ_seq 1 (pc' := 65) (L' := [some (.ref 58), some (.int a1), some (.int a2), some (.int (Int32.ofInt 1))]) (S' := [.int (Int32.ofInt 1)]) (h' := h5) zp_213 rfl ?_
          refine zQ_if zp_213 rfl (t := 76) rfl (i := (1 : Int)) kc_1 (fun c15 => ?_) (fun c15 => ?_)
          · refine zQ_seq 2 (pc' := 78) (L' := [some (.ref 58), some (.int a1), some (.int a2), some (.int (Int32.ofInt 1))]) (S' := [.int a1, .ref 58]) (h' := h5) zp_213 rfl ?_
            refine zQ_cvI (M' := 209) (as := [.ref 58, .int a1]) (S' := []) zp_213 rfl rfl zp_209 (Or.inl rfl) rfl rfl (zqm_imp (((r5'.2 c6).1 c14).1 c15) (fun rv h16 r16 => zri_imp r16 (fun v16 r16' => ?_)))
            exact zQ_retI zp_213 rfl r16'
          · refine zQ_seq 2 (pc' := 70) (L' := [some (.ref 58), some (.int a1), some (.int a2), some (.int (Int32.ofInt 1))]) (S' := [.int a1, .ref 58]) (h' := h5) zp_213 rfl ?_
            refine zQ_cvI (M' := 212) (as := [.ref 58, .int a1]) (S' := []) zp_213 rfl rfl zp_212 (Or.inl rfl) rfl rfl (zqm_imp (((r5'.2 c6).1 c14).2 c15) (fun rv h17 r17 => zri_imp r17 (fun v17 r17' => ?_)))
            refine zQ_goto zp_213 rfl (t := 81) rfl ?_
            exact zQ_retI zp_213 rfl r17'
        · refine zQ_seq 1 (pc' := 45) (L' := [some (.ref 58), some (.int a1), some (.int a2), some (.int (Int32.ofInt 1))]) (S' := [.int (Int32.ofInt 1)]) (h' := h5) zp_213 rfl ?_
          refine zQ_if zp_213 rfl (t := 56) rfl (i := (1 : Int)) kc_1 (fun c18 => ?_) (fun c18 => ?_)
          · refine zQ_seq 2 (pc' := 58) (L' := [some (.ref 58), some (.int a1), some (.int a2), some (.int (Int32.ofInt 1))]) (S' := [.int a1, .ref 58]) (h' := h5) zp_213 rfl ?_
            refine zQ_cvI (M' := 210) (as := [.ref 58, .int a1]) (S' := []) zp_213 rfl rfl zp_210 (Or.inl rfl) rfl rfl (zqm_imp (((r5'.2 c6).2 c14).1 c18) (fun rv h19 r19 => zri_imp r19 (fun v19 r19' => ?_)))
            refine zQ_goto zp_213 rfl (t := 81) rfl ?_
            exact zQ_retI zp_213 rfl r19'
          · refine zQ_seq 2 (pc' := 50) (L' := [some (.ref 58), some (.int a1), some (.int a2), some (.int (Int32.ofInt 1))]) (S' := [.int a1, .ref 58]) (h' := h5) zp_213 rfl ?_
            refine zQ_cvI (M' := 211) (as := [.ref 58, .int a1]) (S' := []) zp_213 rfl rfl zp_211 (Or.inl rfl) rfl rfl (zqm_imp (((r5'.2 c6).2 c14).2 c18) (fun rv h20 r20 => zri_imp r20 (fun v20 r20' => ?_)))
            refine zQ_goto zp_213 rfl (t := 81) rfl ?_
            exact zQ_retI zp_213 rfl r20'
    · refine zQ_seq 1 (pc' := 19) (L' := [some (.ref 58), some (.int a1), some (.int a2), none]) (S' := [.int (-1000001 : Int32)]) (h' := h3) zp_213 rfl ?_
      exact zQ_retI zp_213 rfl (r3'.2 c4)
theorem s_214 {h : zH} {Q : Option Value → zH → Prop} (a1 : Int32) (H : zqm 121 [.int a1, .int (Int32.ofInt 0), .int ((h.1 58 25) - (Int32.ofInt 1))] h (fun rv h1 => zri rv (fun v1 => ((v1.toInt = 0 → Q (some (.int (-1000000 : Int32))) h1) ∧ (¬ (v1.toInt = 0) → (0 ≤ a1.toInt → a1.toInt < 16 → Q (some (.int (h1.1 73 a1.toInt.toNat))) h1)))))) : zqm 214 [.ref 58, .int a1] h Q := by
  refine zqm_of zp_214 (fun n => ?_)
  show zQ n 214 0 [some (.ref 58), some (.int a1)] [] h Q
  refine zQ_seq 6 (pc' := 8) (L' := [some (.ref 58), some (.int a1)]) (S' := [.int ((h.1 58 25) - (Int32.ofInt 1)), .int (Int32.ofInt 0), .int a1]) (h' := h) zp_214 rfl ?_
  refine zQ_csI (M' := 121) (as := [.int a1, .int (Int32.ofInt 0), .int ((h.1 58 25) - (Int32.ofInt 1))]) (S' := []) zp_214 rfl rfl rfl zp_121 (Or.inr rfl) rfl rfl (zqm_imp H (fun rv h1 r1 => zri_imp r1 (fun v1 r1' => ?_)))
  refine zQ_if zp_214 rfl (t := 23) rfl (i := v1.toInt) rfl (fun c2 => ?_) (fun c2 => ?_)
  · refine zQ_seq 1 (pc' := 25) (L' := [some (.ref 58), some (.int a1)]) (S' := [.int (-1000000 : Int32)]) (h' := h1) zp_214 rfl ?_
    exact zQ_retI zp_214 rfl (r1'.1 c2)
  · refine zQ_seq 3 (pc' := 19) (L' := [some (.ref 58), some (.int a1)]) (S' := [.int a1, .ref 73]) (h' := h1) zp_214 rfl ?_
    refine zQ_ial (N := 16) (f := h1.1 73) zp_214 rfl rfl rfl (fun b3 b3' => ?_)
    refine zQ_goto zp_214 rfl (t := 25) rfl ?_
    exact zQ_retI zp_214 rfl ((r1'.2 c2) b3 b3')
theorem s_215 {h : zH} {Q : Option Value → zH → Prop} (a1 : Int32) (H : (∀ n, zQ n 215 4 [some (.ref 58), some (.int a1), some (.int (Int32.ofInt 0)), some (.int (Int32.ofInt 0))] [] h Q)) : zqm 215 [.ref 58, .int a1] h Q := by
  refine zqm_of zp_215 (fun n => ?_)
  have H := H n
  show zQ n 215 0 [some (.ref 58), some (.int a1), none, none] [] h Q
  refine zQ_seq 4 (pc' := 4) (L' := [some (.ref 58), some (.int a1), some (.int (Int32.ofInt 0)), some (.int (Int32.ofInt 0))]) (S' := []) (h' := h) zp_215 rfl ?_
  exact H
theorem s_215_4 {n : Nat} {h : zH} {Q : Option Value → zH → Prop} (x1 : Int32) (x2 : Int32) (x3 : Int32) (H : (((8 : Int) ≤ x3.toInt → ((x1.toInt = 0 → Q (some (.int x2)) h) ∧ ((x1.toInt = 1 → Q (some (.int (h.1 64 57))) h) ∧ ((x1.toInt = 2 → Q (some (.int (h.1 64 58))) h) ∧ ((x1.toInt = 3 → Q (some (.int (h.1 64 59))) h) ∧ ((x1.toInt = 4 → Q (some (.int (h.1 64 60))) h) ∧ ((x1.toInt = 5 → zqm 156 [.ref 58, .ref 64] h (fun rv h3 => zri rv (fun v3 => zqm 123 [.int v3] h3 (fun rv h4 => zri rv (fun v4 => Q (some (.int v4)) h4))))) ∧ ((x1.toInt = 6 → Q (some (.int (h.1 58 12))) h) ∧ ((x1.toInt = 7 → Q (some (.int (h.1 58 5))) h) ∧ ((x1.toInt < 0 ∨ 7 < x1.toInt) → Q (some (.int (-1000001 : Int32))) h)))))))))) ∧ (¬ ((8 : Int) ≤ x3.toInt) → zqm 129 [.ref 58, .int x3] h (fun rv h5 => zri rv (fun v5 => ((v5.toInt = 0 → zQ n 215 4 [some (.ref 58), some (.int x1), some (.int (x2 + (Int32.ofInt 1))), some (.int (x3 + Int32.ofInt 1))] [] h5 Q) ∧ (¬ (v5.toInt = 0) → zQ n 215 4 [some (.ref 58), some (.int x1), some (.int (x2 + (Int32.ofInt 0))), some (.int (x3 + Int32.ofInt 1))] [] h5 Q))))))) : zQ (n + 1) 215 4 [some (.ref 58), some (.int x1), some (.int x2), some (.int x3)] [] h Q := by
  refine zQ_seqL 1 (pc' := 7) (L' := [some (.ref 58), some (.int x1), some (.int x2), some (.int x3)]) (S' := [.int (Int32.ofInt 8), .int x3]) (h' := h) zp_215 rfl ?_
  refine zQ_ic zp_215 rfl (t := 32) rfl (i := x3.toInt) (j := (8 : Int)) rfl kc_8 (fun c1 => ?_) (fun c1 => ?_)
  · refine zQ_seq 1 (pc' := 33) (L' := [some (.ref 58), some (.int x1), some (.int x2), some (.int x3)]) (S' := [.int x1]) (h' := h) zp_215 rfl ?_
    refine zQ_tsw zp_215 rfl (fun t ht => ?_)
    rcases (by omega : x1.toInt = 0 ∨ x1.toInt = 1 ∨ x1.toInt = 2 ∨ x1.toInt = 3 ∨ x1.toInt = 4 ∨ x1.toInt = 5 ∨ x1.toInt = 6 ∨ x1.toInt = 7 ∨ (x1.toInt < 0 ∨ 7 < x1.toInt)) with c2 | c2 | c2 | c2 | c2 | c2 | c2 | c2 | c2
    · have e : (some 80 : Option Nat) = some t := by rw [c2] at ht; exact ht
      cases e
      refine zQ_seq 1 (pc' := 81) (L' := [some (.ref 58), some (.int x1), some (.int x2), some (.int x3)]) (S' := [.int x2]) (h' := h) zp_215 rfl ?_
      exact zQ_retI zp_215 rfl ((H.1 c1).1 c2)
    · have e : (some 82 : Option Nat) = some t := by rw [c2] at ht; exact ht
      cases e
      refine zQ_seq 3 (pc' := 88) (L' := [some (.ref 58), some (.int x1), some (.int x2), some (.int x3)]) (S' := [.int (Int32.ofInt 57), .ref 64]) (h' := h) zp_215 rfl ?_
      refine zQ_ialk 57 (N := 62) (f := h.1 64) zp_215 rfl rfl kc_57 ?_
      exact zQ_retI zp_215 rfl ((H.1 c1).2.1 c2)
    · have e : (some 90 : Option Nat) = some t := by rw [c2] at ht; exact ht
      cases e
      refine zQ_seq 3 (pc' := 96) (L' := [some (.ref 58), some (.int x1), some (.int x2), some (.int x3)]) (S' := [.int (Int32.ofInt 58), .ref 64]) (h' := h) zp_215 rfl ?_
      refine zQ_ialk 58 (N := 62) (f := h.1 64) zp_215 rfl rfl kc_58 ?_
      exact zQ_retI zp_215 rfl ((H.1 c1).2.2.1 c2)
    · have e : (some 98 : Option Nat) = some t := by rw [c2] at ht; exact ht
      cases e
      refine zQ_seq 3 (pc' := 104) (L' := [some (.ref 58), some (.int x1), some (.int x2), some (.int x3)]) (S' := [.int (Int32.ofInt 59), .ref 64]) (h' := h) zp_215 rfl ?_
      refine zQ_ialk 59 (N := 62) (f := h.1 64) zp_215 rfl rfl kc_59 ?_
      exact zQ_retI zp_215 rfl ((H.1 c1).2.2.2.1 c2)
    · have e : (some 106 : Option Nat) = some t := by rw [c2] at ht; exact ht
      cases e
      refine zQ_seq 3 (pc' := 112) (L' := [some (.ref 58), some (.int x1), some (.int x2), some (.int x3)]) (S' := [.int (Int32.ofInt 60), .ref 64]) (h' := h) zp_215 rfl ?_
      refine zQ_ialk 60 (N := 62) (f := h.1 64) zp_215 rfl rfl kc_60 ?_
      exact zQ_retI zp_215 rfl ((H.1 c1).2.2.2.2.1 c2)
    · have e : (some 114 : Option Nat) = some t := by rw [c2] at ht; exact ht
      cases e
      refine zQ_seq 3 (pc' := 119) (L' := [some (.ref 58), some (.int x1), some (.int x2), some (.int x3)]) (S' := [.ref 64, .ref 58]) (h' := h) zp_215 rfl ?_
      refine zQ_cvI (M' := 156) (as := [.ref 58, .ref 64]) (S' := []) zp_215 rfl rfl zp_156 (Or.inl rfl) rfl rfl (zqm_imp ((H.1 c1).2.2.2.2.2.1 c2) (fun rv h3 r3 => zri_imp r3 (fun v3 r3' => ?_)))
      refine zQ_csI (M' := 123) (as := [.int v3]) (S' := []) zp_215 rfl rfl rfl zp_123 (Or.inl rfl) rfl rfl (zqm_imp r3' (fun rv h4 r4 => zri_imp r4 (fun v4 r4' => ?_)))
      exact zQ_retI zp_215 rfl r4'
    · have e : (some 126 : Option Nat) = some t := by rw [c2] at ht; exact ht
      cases e
      refine zQ_seq 2 (pc' := 130) (L' := [some (.ref 58), some (.int x1), some (.int x2), some (.int x3)]) (S' := [.int (h.1 58 12)]) (h' := h) zp_215 rfl ?_
      exact zQ_retI zp_215 rfl ((H.1 c1).2.2.2.2.2.2.1 c2)
    · have e : (some 131 : Option Nat) = some t := by rw [c2] at ht; exact ht
      cases e
      refine zQ_seq 2 (pc' := 135) (L' := [some (.ref 58), some (.int x1), some (.int x2), some (.int x3)]) (S' := [.int (h.1 58 5)]) (h' := h) zp_215 rfl ?_
      exact zQ_retI zp_215 rfl ((H.1 c1).2.2.2.2.2.2.2.1 c2)
    · have e : (some 136 : Option Nat) = some t := by rw [zTsw_d (t' := 136) rfl c2 ht]
      cases e
      refine zQ_seq 1 (pc' := 138) (L' := [some (.ref 58), some (.int x1), some (.int x2), some (.int x3)]) (S' := [.int (-1000001 : Int32)]) (h' := h) zp_215 rfl ?_
      exact zQ_retI zp_215 rfl ((H.1 c1).2.2.2.2.2.2.2.2 c2)
  · refine zQ_seq 3 (pc' := 13) (L' := [some (.ref 58), some (.int x1), some (.int x2), some (.int x3)]) (S' := [.int x3, .ref 58, .int x2]) (h' := h) zp_215 rfl ?_
    refine zQ_cvI (M' := 129) (as := [.ref 58, .int x3]) (S' := [.int x2]) zp_215 rfl rfl zp_129 (Or.inr rfl) rfl rfl (zqm_imp (H.2 c1) (fun rv h5 r5 => zri_imp r5 (fun v5 r5' => ?_)))
    refine zQ_if zp_215 rfl (t := 23) rfl (i := v5.toInt) rfl (fun c6 => ?_) (fun c6 => ?_)
    · refine zQ_seq 4 (pc' := 29) (L' := [some (.ref 58), some (.int x1), some (.int (x2 + (Int32.ofInt 1))), some (.int (x3 + Int32.ofInt 1))]) (S' := []) (h' := h5) zp_215 rfl ?_
      refine zQ_goto zp_215 rfl (t := 4) rfl ?_
      exact (r5'.1 c6)
    · refine zQ_seq 1 (pc' := 20) (L' := [some (.ref 58), some (.int x1), some (.int x2), some (.int x3)]) (S' := [.int (Int32.ofInt 0), .int x2]) (h' := h5) zp_215 rfl ?_
      refine zQ_goto zp_215 rfl (t := 24) rfl ?_
      refine zQ_seq 3 (pc' := 29) (L' := [some (.ref 58), some (.int x1), some (.int (x2 + (Int32.ofInt 0))), some (.int (x3 + Int32.ofInt 1))]) (S' := []) (h' := h5) zp_215 rfl ?_
      refine zQ_goto zp_215 rfl (t := 4) rfl ?_
      exact (r5'.2 c6)

/-! rows: what their methods answer -/
set_option maxHeartbeats 1000000 in
theorem f_68 (h : zH) (r : Int32) : zm 0 68 [.int r] h (fun rv h' => rv = some (.int (zbo (0 ≤ r.toInt ∧ r.toInt < 8))) ∧ h' = h) := by
  refine zm_ofM (x := zm_68) rfl ?_
  show zwM 0 68 0 [some (.int r)] [] h _
  refine zwM_one (i := .iload_n 0) (e := zm_68) rfl rfl rfl rfl (fun _ => rfl) ?_
  show zwM 0 68 1 [some (.int r)] [.int r] h _
  refine wk_if_lt (e := zm_68) (t := 14) rfl rfl rfl rfl (fun c1 => ?_) (fun c1 => ?_)
  · show zwM 0 68 14 [some (.int r)] [] h _
    refine zwM_one (i := .iconst 0) (e := zm_68) rfl rfl rfl rfl (fun _ => rfl) ?_
    show zwM 0 68 15 [some (.int r)] [.int (Int32.ofInt 0)] h _
    refine zwM_ret (e := zm_68) (i := .ireturn) rfl rfl rfl ?_
    exact ⟨zboF (by omega), rfl⟩
  · show zwM 0 68 4 [some (.int r)] [] h _
    refine zwM_one (i := .iload_n 0) (e := zm_68) rfl rfl rfl rfl (fun _ => rfl) ?_
    show zwM 0 68 5 [some (.int r)] [.int r] h _
    refine zwM_one (i := .bipush 8) (e := zm_68) rfl rfl rfl rfl (fun _ => rfl) ?_
    show zwM 0 68 7 [some (.int r)] [.int (Int8.ofInt 8).toInt32, .int r] h _
    refine wk_ic_ge (e := zm_68) (t := 14) rfl rfl rfl rfl (show (Int8.ofInt 8).toInt32.toInt = 8 by decide) (fun c2 => ?_) (fun c2 => ?_)
    · show zwM 0 68 14 [some (.int r)] [] h _
      refine zwM_one (i := .iconst 0) (e := zm_68) rfl rfl rfl rfl (fun _ => rfl) ?_
      show zwM 0 68 15 [some (.int r)] [.int (Int32.ofInt 0)] h _
      refine zwM_ret (e := zm_68) (i := .ireturn) rfl rfl rfl ?_
      exact ⟨zboF (by omega), rfl⟩
    · show zwM 0 68 10 [some (.int r)] [] h _
      refine zwM_one (i := .iconst 1) (e := zm_68) rfl rfl rfl rfl (fun _ => rfl) ?_
      show zwM 0 68 11 [some (.int r)] [.int (Int32.ofInt 1)] h _
      refine zwM_one (i := .goto 4) (e := zm_68) rfl rfl rfl rfl (fun _ => rfl) ?_
      show zwM 0 68 15 [some (.int r)] [.int (Int32.ofInt 1)] h _
      refine zwM_ret (e := zm_68) (i := .ireturn) rfl rfl rfl ?_
      exact ⟨zboT (by omega), rfl⟩
set_option maxHeartbeats 1000000 in
theorem f_69 (h : zH) (r : Int32) : zm 0 69 [.int r] h (fun rv h' => rv = some (.int (zbo (0 ≤ r.toInt ∧ r.toInt < 3))) ∧ h' = h) := by
  refine zm_ofM (x := zm_69) rfl ?_
  show zwM 0 69 0 [some (.int r)] [] h _
  refine zwM_one (i := .iload_n 0) (e := zm_69) rfl rfl rfl rfl (fun _ => rfl) ?_
  show zwM 0 69 1 [some (.int r)] [.int r] h _
  refine wk_if_lt (e := zm_69) (t := 13) rfl rfl rfl rfl (fun c1 => ?_) (fun c1 => ?_)
  · show zwM 0 69 13 [some (.int r)] [] h _
    refine zwM_one (i := .iconst 0) (e := zm_69) rfl rfl rfl rfl (fun _ => rfl) ?_
    show zwM 0 69 14 [some (.int r)] [.int (Int32.ofInt 0)] h _
    refine zwM_ret (e := zm_69) (i := .ireturn) rfl rfl rfl ?_
    exact ⟨zboF (by omega), rfl⟩
  · show zwM 0 69 4 [some (.int r)] [] h _
    refine zwM_one (i := .iload_n 0) (e := zm_69) rfl rfl rfl rfl (fun _ => rfl) ?_
    show zwM 0 69 5 [some (.int r)] [.int r] h _
    refine zwM_one (i := .iconst 3) (e := zm_69) rfl rfl rfl rfl (fun _ => rfl) ?_
    show zwM 0 69 6 [some (.int r)] [.int (Int32.ofInt 3), .int r] h _
    refine wk_ic_ge (e := zm_69) (t := 13) rfl rfl rfl rfl (show (Int32.ofInt 3).toInt = 3 by decide) (fun c2 => ?_) (fun c2 => ?_)
    · show zwM 0 69 13 [some (.int r)] [] h _
      refine zwM_one (i := .iconst 0) (e := zm_69) rfl rfl rfl rfl (fun _ => rfl) ?_
      show zwM 0 69 14 [some (.int r)] [.int (Int32.ofInt 0)] h _
      refine zwM_ret (e := zm_69) (i := .ireturn) rfl rfl rfl ?_
      exact ⟨zboF (by omega), rfl⟩
    · show zwM 0 69 9 [some (.int r)] [] h _
      refine zwM_one (i := .iconst 1) (e := zm_69) rfl rfl rfl rfl (fun _ => rfl) ?_
      show zwM 0 69 10 [some (.int r)] [.int (Int32.ofInt 1)] h _
      refine zwM_one (i := .goto 4) (e := zm_69) rfl rfl rfl rfl (fun _ => rfl) ?_
      show zwM 0 69 14 [some (.int r)] [.int (Int32.ofInt 1)] h _
      refine zwM_ret (e := zm_69) (i := .ireturn) rfl rfl rfl ?_
      exact ⟨zboT (by omega), rfl⟩
set_option maxHeartbeats 1000000 in
theorem f_114 (h : zH) (k : Int32) : zm 0 114 [.ref 0, .int k] h (fun rv h' => rv = some (.int ((-1000010 : Int32) - k)) ∧ h' = (zSet h 0 11 k)) := by
  refine zm_ofM (x := zm_114) rfl ?_
  show zwM 0 114 0 [some (.ref 0), some (.int k)] [] h _
  refine zwM_one (i := .aload_n 0) (e := zm_114) rfl rfl rfl rfl (fun _ => rfl) ?_
  show zwM 0 114 1 [some (.ref 0), some (.int k)] [.ref 0] h _
  refine zwM_one (i := .iload_n 1) (e := zm_114) rfl rfl rfl rfl (fun _ => rfl) ?_
  show zwM 0 114 2 [some (.ref 0), some (.int k)] [.int k, .ref 0] h _
  refine zwM_one (i := .putfield 342) (e := zm_114) rfl rfl rfl rfl (fun _ => rfl) ?_
  show zwM 0 114 5 [some (.ref 0), some (.int k)] [] (zSet h 0 11 k) _
  refine zwM_one (i := .ldc_w 345) (e := zm_114) rfl rfl rfl rfl (fun _ => rfl) ?_
  show zwM 0 114 8 [some (.ref 0), some (.int k)] [.int (-1000010 : Int32)] (zSet h 0 11 k) _
  refine zwM_one (i := .iload_n 1) (e := zm_114) rfl rfl rfl rfl (fun _ => rfl) ?_
  show zwM 0 114 9 [some (.ref 0), some (.int k)] [.int k, .int (-1000010 : Int32)] (zSet h 0 11 k) _
  refine zwM_one (i := .isub) (e := zm_114) rfl rfl rfl rfl (fun _ => rfl) ?_
  show zwM 0 114 10 [some (.ref 0), some (.int k)] [.int ((-1000010 : Int32) - k)] (zSet h 0 11 k) _
  refine zwM_ret (e := zm_114) (i := .ireturn) rfl rfl rfl ?_
  exact ⟨rfl, rfl⟩
set_option maxHeartbeats 1000000 in
theorem f_115 (h : zH) (k : Int32) : zm 0 115 [.ref 0, .int k] h (fun rv h' => rv = some (.int k) ∧ h' = (zSet h 0 11 (Int32.ofInt 0))) := by
  refine zm_ofM (x := zm_115) rfl ?_
  show zwM 0 115 0 [some (.ref 0), some (.int k)] [] h _
  refine zwM_one (i := .aload_n 0) (e := zm_115) rfl rfl rfl rfl (fun _ => rfl) ?_
  show zwM 0 115 1 [some (.ref 0), some (.int k)] [.ref 0] h _
  refine zwM_one (i := .iconst 0) (e := zm_115) rfl rfl rfl rfl (fun _ => rfl) ?_
  show zwM 0 115 2 [some (.ref 0), some (.int k)] [.int (Int32.ofInt 0), .ref 0] h _
  refine zwM_one (i := .putfield 342) (e := zm_115) rfl rfl rfl rfl (fun _ => rfl) ?_
  show zwM 0 115 5 [some (.ref 0), some (.int k)] [] (zSet h 0 11 (Int32.ofInt 0)) _
  refine zwM_one (i := .iload_n 1) (e := zm_115) rfl rfl rfl rfl (fun _ => rfl) ?_
  show zwM 0 115 6 [some (.ref 0), some (.int k)] [.int k] (zSet h 0 11 (Int32.ofInt 0)) _
  refine zwM_ret (e := zm_115) (i := .ireturn) rfl rfl rfl ?_
  exact ⟨rfl, rfl⟩
set_option maxHeartbeats 1000000 in
theorem f_125 (h : zH) (k : Int32) : zm 0 125 [.ref 58, .int k] h (fun rv h' => rv = some (.int ((-1000010 : Int32) - k)) ∧ h' = (zSet h 58 3 k)) := by
  refine zm_ofM (x := zm_125) rfl ?_
  show zwM 0 125 0 [some (.ref 58), some (.int k)] [] h _
  refine zwM_one (i := .aload_n 0) (e := zm_125) rfl rfl rfl rfl (fun _ => rfl) ?_
  show zwM 0 125 1 [some (.ref 58), some (.int k)] [.ref 58] h _
  refine zwM_one (i := .iload_n 1) (e := zm_125) rfl rfl rfl rfl (fun _ => rfl) ?_
  show zwM 0 125 2 [some (.ref 58), some (.int k)] [.int k, .ref 58] h _
  refine zwM_one (i := .putfield 56) (e := zm_125) rfl rfl rfl rfl (fun _ => rfl) ?_
  show zwM 0 125 5 [some (.ref 58), some (.int k)] [] (zSet h 58 3 k) _
  refine zwM_one (i := .ldc 60) (e := zm_125) rfl rfl rfl rfl (fun _ => rfl) ?_
  show zwM 0 125 7 [some (.ref 58), some (.int k)] [.int (-1000010 : Int32)] (zSet h 58 3 k) _
  refine zwM_one (i := .iload_n 1) (e := zm_125) rfl rfl rfl rfl (fun _ => rfl) ?_
  show zwM 0 125 8 [some (.ref 58), some (.int k)] [.int k, .int (-1000010 : Int32)] (zSet h 58 3 k) _
  refine zwM_one (i := .isub) (e := zm_125) rfl rfl rfl rfl (fun _ => rfl) ?_
  show zwM 0 125 9 [some (.ref 58), some (.int k)] [.int ((-1000010 : Int32) - k)] (zSet h 58 3 k) _
  refine zwM_ret (e := zm_125) (i := .ireturn) rfl rfl rfl ?_
  exact ⟨rfl, rfl⟩
set_option maxHeartbeats 1000000 in
theorem f_126 (h : zH) (k : Int32) : zm 0 126 [.ref 58, .int k] h (fun rv h' => rv = some (.int k) ∧ h' = (zSet h 58 3 (Int32.ofInt 0))) := by
  refine zm_ofM (x := zm_126) rfl ?_
  show zwM 0 126 0 [some (.ref 58), some (.int k)] [] h _
  refine zwM_one (i := .aload_n 0) (e := zm_126) rfl rfl rfl rfl (fun _ => rfl) ?_
  show zwM 0 126 1 [some (.ref 58), some (.int k)] [.ref 58] h _
  refine zwM_one (i := .iconst 0) (e := zm_126) rfl rfl rfl rfl (fun _ => rfl) ?_
  show zwM 0 126 2 [some (.ref 58), some (.int k)] [.int (Int32.ofInt 0), .ref 58] h _
  refine zwM_one (i := .putfield 56) (e := zm_126) rfl rfl rfl rfl (fun _ => rfl) ?_
  show zwM 0 126 5 [some (.ref 58), some (.int k)] [] (zSet h 58 3 (Int32.ofInt 0)) _
  refine zwM_one (i := .iload_n 1) (e := zm_126) rfl rfl rfl rfl (fun _ => rfl) ?_
  show zwM 0 126 6 [some (.ref 58), some (.int k)] [.int k] (zSet h 58 3 (Int32.ofInt 0)) _
  refine zwM_ret (e := zm_126) (i := .ireturn) rfl rfl rfl ?_
  exact ⟨rfl, rfl⟩
set_option maxHeartbeats 1000000 in
theorem f_121 (h : zH) (v : Int32) (a : Int32) (b : Int32) : zm 0 121 [.int v, .int a, .int b] h (fun rv h' => rv = some (.int (zbo (a.toInt ≤ v.toInt ∧ v.toInt ≤ b.toInt))) ∧ h' = h) := by
  refine zm_ofM (x := zm_121) rfl ?_
  show zwM 0 121 0 [some (.int v), some (.int a), some (.int b)] [] h _
  refine zwM_one (i := .iload_n 0) (e := zm_121) rfl rfl rfl rfl (fun _ => rfl) ?_
  show zwM 0 121 1 [some (.int v), some (.int a), some (.int b)] [.int v] h _
  refine zwM_one (i := .iload_n 1) (e := zm_121) rfl rfl rfl rfl (fun _ => rfl) ?_
  show zwM 0 121 2 [some (.int v), some (.int a), some (.int b)] [.int a, .int v] h _
  refine wk_ic_lt (e := zm_121) (t := 14) rfl rfl rfl rfl rfl (fun c1 => ?_) (fun c1 => ?_)
  · show zwM 0 121 14 [some (.int v), some (.int a), some (.int b)] [] h _
    refine zwM_one (i := .iconst 0) (e := zm_121) rfl rfl rfl rfl (fun _ => rfl) ?_
    show zwM 0 121 15 [some (.int v), some (.int a), some (.int b)] [.int (Int32.ofInt 0)] h _
    refine zwM_ret (e := zm_121) (i := .ireturn) rfl rfl rfl ?_
    exact ⟨zboF (by omega), rfl⟩
  · show zwM 0 121 5 [some (.int v), some (.int a), some (.int b)] [] h _
    refine zwM_one (i := .iload_n 0) (e := zm_121) rfl rfl rfl rfl (fun _ => rfl) ?_
    show zwM 0 121 6 [some (.int v), some (.int a), some (.int b)] [.int v] h _
    refine zwM_one (i := .iload_n 2) (e := zm_121) rfl rfl rfl rfl (fun _ => rfl) ?_
    show zwM 0 121 7 [some (.int v), some (.int a), some (.int b)] [.int b, .int v] h _
    refine wk_ic_gt (e := zm_121) (t := 14) rfl rfl rfl rfl rfl (fun c2 => ?_) (fun c2 => ?_)
    · show zwM 0 121 14 [some (.int v), some (.int a), some (.int b)] [] h _
      refine zwM_one (i := .iconst 0) (e := zm_121) rfl rfl rfl rfl (fun _ => rfl) ?_
      show zwM 0 121 15 [some (.int v), some (.int a), some (.int b)] [.int (Int32.ofInt 0)] h _
      refine zwM_ret (e := zm_121) (i := .ireturn) rfl rfl rfl ?_
      exact ⟨zboF (by omega), rfl⟩
    · show zwM 0 121 10 [some (.int v), some (.int a), some (.int b)] [] h _
      refine zwM_one (i := .iconst 1) (e := zm_121) rfl rfl rfl rfl (fun _ => rfl) ?_
      show zwM 0 121 11 [some (.int v), some (.int a), some (.int b)] [.int (Int32.ofInt 1)] h _
      refine zwM_one (i := .goto 4) (e := zm_121) rfl rfl rfl rfl (fun _ => rfl) ?_
      show zwM 0 121 15 [some (.int v), some (.int a), some (.int b)] [.int (Int32.ofInt 1)] h _
      refine zwM_ret (e := zm_121) (i := .ireturn) rfl rfl rfl ?_
      exact ⟨zboT (by omega), rfl⟩
set_option maxHeartbeats 1000000 in
theorem f_128 (h : zH) (r : Int32) : zm 1 128 [.int r] h (fun rv h' => rv = some (.int (zbo (0 ≤ r.toInt ∧ r.toInt < 8))) ∧ h' = h) := by
  refine zm_ofM (x := zm_128) rfl ?_
  show zwM 1 128 0 [some (.int r)] [] h _
  refine zwM_one (i := .iload_n 0) (e := zm_128) rfl rfl rfl rfl (fun _ => rfl) ?_
  show zwM 1 128 1 [some (.int r)] [.int r] h _
  refine zwM_one (i := .iconst 0) (e := zm_128) rfl rfl rfl rfl (fun _ => rfl) ?_
  show zwM 1 128 2 [some (.int r)] [.int (Int32.ofInt 0), .int r] h _
  refine zwM_one (i := .bipush 7) (e := zm_128) rfl rfl rfl rfl (fun _ => rfl) ?_
  show zwM 1 128 4 [some (.int r)] [.int (Int8.ofInt 7).toInt32, .int (Int32.ofInt 0), .int r] h _
  refine zwM_callS (e := zm_128) (M' := 121) (e' := zm_121) rfl rfl rfl rfl rfl rfl ?_
  refine zm_imp (zm_le (show 0 ≤ 0 by decide) (f_121 h r (Int32.ofInt 0) (Int8.ofInt 7).toInt32)) (fun rv h' hr => ?_)
  rw [hr.1, hr.2]
  show zwM 1 128 7 [some (.int r)] [.int (zbo (0 ≤ r.toInt ∧ r.toInt ≤ 7))] h _
  refine zwM_ret (e := zm_128) (i := .ireturn) rfl rfl (wk_retB rfl) ?_
  exact ⟨wk_zb (by omega), rfl⟩
theorem f_74 (h : zH) (r l n : Int32) (ht : hTy h) : zm 2 74 [.ref 1, .int r, .int l, .int n] h (fun rv h' => rv = none ∧ hTy h') := by
  refine zm_le (show 1 ≤ 2 by decide) (zm_imp (sk_47 [.ref 1, .int r, .int l, .int n] h ht ⟨rfl, ps_int r, ps_int l, ps_int n, trivial⟩ (fun e he => by cases he)) (fun rv h' hq => ?_))
  obtain ⟨q1, q2, z, hz, q3⟩ := hq
  have ez := List.mem_singleton.mp hz
  subst ez
  refine ⟨?_, q1⟩
  cases rv with
  | none => rfl
  | some v => exact q3.1.elim
def rowA (r l n : Int32) : Int32 := if ¬ (0 ≤ r.toInt ∧ r.toInt < 8) ∨ ¬ (0 ≤ l.toInt ∧ l.toInt < 3) ∨ 40 < n.toInt then -1000001 else if n.toInt < 0 then -1000014 else n
set_option maxHeartbeats 1000000 in
theorem f_80 (h : zH) (r : Int32) (l : Int32) (n : Int32) (ht : hTy h) : zm 3 80 [.ref 0, .int r, .int l, .int n] h (fun rv h' => rv = some (.int (rowA r l n))) := by
  refine zm_ofM (x := zm_80) rfl ?_
  show zwM 3 80 0 [some (.ref 0), some (.int r), some (.int l), some (.int n)] [] h _
  refine zwM_one (i := .iload_n 1) (e := zm_80) rfl rfl rfl rfl (fun _ => rfl) ?_
  show zwM 3 80 1 [some (.ref 0), some (.int r), some (.int l), some (.int n)] [.int r] h _
  refine zwM_callS (e := zm_80) (M' := 68) (e' := zm_68) rfl rfl rfl rfl rfl rfl ?_
  refine zm_imp (zm_le (show 0 ≤ 2 by decide) (f_68 h r)) (fun rv h' hr => ?_)
  rw [hr.1, hr.2]
  show zwM 3 80 4 [some (.ref 0), some (.int r), some (.int l), some (.int n)] [.int (zbo (0 ≤ r.toInt ∧ r.toInt < 8))] h _
  refine wk_bEq (e := zm_80) (t := 20) rfl rfl rfl (fun c1 => ?_) (fun c1 => ?_)
  · show zwM 3 80 20 [some (.ref 0), some (.int r), some (.int l), some (.int n)] [] h _
    refine zwM_one (i := .ldc 76) (e := zm_80) rfl rfl rfl rfl (fun _ => rfl) ?_
    show zwM 3 80 22 [some (.ref 0), some (.int r), some (.int l), some (.int n)] [.int (-1000001 : Int32)] h _
    refine zwM_ret (e := zm_80) (i := .ireturn) rfl rfl rfl ?_
    unfold rowA
    repeat' split
    all_goals first | rfl | (exfalso; omega)
  · show zwM 3 80 7 [some (.ref 0), some (.int r), some (.int l), some (.int n)] [] h _
    refine zwM_one (i := .iload_n 2) (e := zm_80) rfl rfl rfl rfl (fun _ => rfl) ?_
    show zwM 3 80 8 [some (.ref 0), some (.int r), some (.int l), some (.int n)] [.int l] h _
    refine zwM_callS (e := zm_80) (M' := 69) (e' := zm_69) rfl rfl rfl rfl rfl rfl ?_
    refine zm_imp (zm_le (show 0 ≤ 2 by decide) (f_69 h l)) (fun rv h' hr => ?_)
    rw [hr.1, hr.2]
    show zwM 3 80 11 [some (.ref 0), some (.int r), some (.int l), some (.int n)] [.int (zbo (0 ≤ l.toInt ∧ l.toInt < 3))] h _
    refine wk_bEq (e := zm_80) (t := 20) rfl rfl rfl (fun c2 => ?_) (fun c2 => ?_)
    · show zwM 3 80 20 [some (.ref 0), some (.int r), some (.int l), some (.int n)] [] h _
      refine zwM_one (i := .ldc 76) (e := zm_80) rfl rfl rfl rfl (fun _ => rfl) ?_
      show zwM 3 80 22 [some (.ref 0), some (.int r), some (.int l), some (.int n)] [.int (-1000001 : Int32)] h _
      refine zwM_ret (e := zm_80) (i := .ireturn) rfl rfl rfl ?_
      unfold rowA
      repeat' split
      all_goals first | rfl | (exfalso; omega)
    · show zwM 3 80 14 [some (.ref 0), some (.int r), some (.int l), some (.int n)] [] h _
      refine zwM_one (i := .iload_n 3) (e := zm_80) rfl rfl rfl rfl (fun _ => rfl) ?_
      show zwM 3 80 15 [some (.ref 0), some (.int r), some (.int l), some (.int n)] [.int n] h _
      refine zwM_one (i := .bipush 40) (e := zm_80) rfl rfl rfl rfl (fun _ => rfl) ?_
      show zwM 3 80 17 [some (.ref 0), some (.int r), some (.int l), some (.int n)] [.int (Int8.ofInt 40).toInt32, .int n] h _
      refine wk_ic_le (e := zm_80) (t := 23) rfl rfl rfl rfl (show (Int8.ofInt 40).toInt32.toInt = 40 by decide) (fun c3 => ?_) (fun c3 => ?_)
      · show zwM 3 80 23 [some (.ref 0), some (.int r), some (.int l), some (.int n)] [] h _
        refine zwM_one (i := .iload_n 3) (e := zm_80) rfl rfl rfl rfl (fun _ => rfl) ?_
        show zwM 3 80 24 [some (.ref 0), some (.int r), some (.int l), some (.int n)] [.int n] h _
        refine wk_if_ge (e := zm_80) (t := 33) rfl rfl rfl rfl (fun c4 => ?_) (fun c4 => ?_)
        · show zwM 3 80 33 [some (.ref 0), some (.int r), some (.int l), some (.int n)] [] h _
          refine zwM_one (i := .aload_n 0) (e := zm_80) rfl rfl rfl rfl (fun _ => rfl) ?_
          show zwM 3 80 34 [some (.ref 0), some (.int r), some (.int l), some (.int n)] [.ref 0] h _
          refine zwM_one (i := .getfield 10) (e := zm_80) rfl rfl rfl rfl (fun _ => rfl) ?_
          show zwM 3 80 37 [some (.ref 0), some (.int r), some (.int l), some (.int n)] [.ref 1] h _
          refine zwM_one (i := .iload_n 1) (e := zm_80) rfl rfl rfl rfl (fun _ => rfl) ?_
          show zwM 3 80 38 [some (.ref 0), some (.int r), some (.int l), some (.int n)] [.int r, .ref 1] h _
          refine zwM_one (i := .iload_n 2) (e := zm_80) rfl rfl rfl rfl (fun _ => rfl) ?_
          show zwM 3 80 39 [some (.ref 0), some (.int r), some (.int l), some (.int n)] [.int l, .int r, .ref 1] h _
          refine zwM_one (i := .iload_n 3) (e := zm_80) rfl rfl rfl rfl (fun _ => rfl) ?_
          show zwM 3 80 40 [some (.ref 0), some (.int r), some (.int l), some (.int n)] [.int n, .int l, .int r, .ref 1] h _
          refine wk_callV (e := zm_80) (M' := 74) (e' := zm_74) rfl rfl rfl rfl rfl ?_
          refine zm_imp (zm_le (show 2 ≤ 2 by decide) (f_74 h r l n ht)) (fun rv h' hr => ?_)
          rw [hr.1]
          have hth5 := hr.2
          generalize h' = h5 at hth5 ⊢
          show zwM 3 80 43 [some (.ref 0), some (.int r), some (.int l), some (.int n)] [] h5 _
          refine zwM_one (i := .aload_n 0) (e := zm_80) rfl rfl rfl rfl (fun _ => rfl) ?_
          show zwM 3 80 44 [some (.ref 0), some (.int r), some (.int l), some (.int n)] [.ref 0] h5 _
          refine zwM_one (i := .iload_n 3) (e := zm_80) rfl rfl rfl rfl (fun _ => rfl) ?_
          show zwM 3 80 45 [some (.ref 0), some (.int r), some (.int l), some (.int n)] [.int n, .ref 0] h5 _
          refine wk_callV (e := zm_80) (M' := 115) (e' := zm_115) rfl rfl rfl rfl rfl ?_
          refine zm_imp (zm_le (show 0 ≤ 2 by decide) (f_115 h5 n)) (fun rv h' hr => ?_)
          rw [hr.1, hr.2]
          show zwM 3 80 48 [some (.ref 0), some (.int r), some (.int l), some (.int n)] [.int n] (zSet h5 0 11 (Int32.ofInt 0)) _
          refine zwM_ret (e := zm_80) (i := .ireturn) rfl rfl rfl ?_
          unfold rowA
          repeat' split
          all_goals first | rfl | (exfalso; omega)
        · show zwM 3 80 27 [some (.ref 0), some (.int r), some (.int l), some (.int n)] [] h _
          refine zwM_one (i := .aload_n 0) (e := zm_80) rfl rfl rfl rfl (fun _ => rfl) ?_
          show zwM 3 80 28 [some (.ref 0), some (.int r), some (.int l), some (.int n)] [.ref 0] h _
          refine zwM_one (i := .iconst 4) (e := zm_80) rfl rfl rfl rfl (fun _ => rfl) ?_
          show zwM 3 80 29 [some (.ref 0), some (.int r), some (.int l), some (.int n)] [.int (Int32.ofInt 4), .ref 0] h _
          refine wk_callV (e := zm_80) (M' := 114) (e' := zm_114) rfl rfl rfl rfl rfl ?_
          refine zm_imp (zm_le (show 0 ≤ 2 by decide) (f_114 h (Int32.ofInt 4))) (fun rv h' hr => ?_)
          rw [hr.1, hr.2]
          show zwM 3 80 32 [some (.ref 0), some (.int r), some (.int l), some (.int n)] [.int ((-1000010 : Int32) - (Int32.ofInt 4))] (zSet h 0 11 (Int32.ofInt 4)) _
          refine zwM_ret (e := zm_80) (i := .ireturn) rfl rfl rfl ?_
          unfold rowA
          repeat' split
          all_goals first | rfl | (exfalso; omega)
      · show zwM 3 80 20 [some (.ref 0), some (.int r), some (.int l), some (.int n)] [] h _
        refine zwM_one (i := .ldc 76) (e := zm_80) rfl rfl rfl rfl (fun _ => rfl) ?_
        show zwM 3 80 22 [some (.ref 0), some (.int r), some (.int l), some (.int n)] [.int (-1000001 : Int32)] h _
        refine zwM_ret (e := zm_80) (i := .ireturn) rfl rfl rfl ?_
        unfold rowA
        repeat' split
        all_goals first | rfl | (exfalso; omega)
set_option maxHeartbeats 1000000 in
theorem f_130_l (r l n : Int32) (r0 : 0 ≤ r.toInt) (r1 : r.toInt < 8) (n0 : 0 ≤ n.toInt) (lo : 0 ≤ l.toInt ∧ l.toInt < 3 ∧ n.toInt ≤ 40) : ∀ (k : Nat) (x : Int32) (h : zH), x.toInt + (k : Int) = 40 → 0 ≤ x.toInt → zwM 2 130 52 [some (.ref 58), some (.int r), some (.int l), some (.int n), some (.int x)] [] h (fun rv _ => rv = some (.int (rowA r l n))) := by
  intro k
  induction k with
  | zero =>
    intro x h hx h0
    have hx : x.toInt + 0 = 40 := hx
    refine zwM_one (i := .iload 4) (e := zm_130) rfl rfl rfl rfl (fun _ => rfl) ?_
    show zwM 2 130 54 [some (.ref 58), some (.int r), some (.int l), some (.int n), some (.int x)] [.int x] h _
    refine zwM_one (i := .bipush 40) (e := zm_130) rfl rfl rfl rfl (fun _ => rfl) ?_
    show zwM 2 130 56 [some (.ref 58), some (.int r), some (.int l), some (.int n), some (.int x)] [.int (Int8.ofInt 40).toInt32, .int x] h _
    refine wk_ic_ge (e := zm_130) (t := 78) rfl rfl rfl rfl (show (Int8.ofInt 40).toInt32.toInt = 40 by decide) (fun c1 => ?_) (fun c1 => ?_)
    · show zwM 2 130 78 [some (.ref 58), some (.int r), some (.int l), some (.int n), some (.int x)] [] h _
      refine zwM_one (i := .aload_n 0) (e := zm_130) rfl rfl rfl rfl (fun _ => rfl) ?_
      show zwM 2 130 79 [some (.ref 58), some (.int r), some (.int l), some (.int n), some (.int x)] [.ref 58] h _
      refine zwM_one (i := .iload_n 3) (e := zm_130) rfl rfl rfl rfl (fun _ => rfl) ?_
      show zwM 2 130 80 [some (.ref 58), some (.int r), some (.int l), some (.int n), some (.int x)] [.int n, .ref 58] h _
      refine wk_callV (e := zm_130) (M' := 126) (e' := zm_126) rfl rfl rfl rfl rfl ?_
      refine zm_imp (zm_le (show 0 ≤ 1 by decide) (f_126 h n)) (fun rv h' hr => ?_)
      rw [hr.1, hr.2]
      show zwM 2 130 83 [some (.ref 58), some (.int r), some (.int l), some (.int n), some (.int x)] [.int n] (zSet h 58 3 (Int32.ofInt 0)) _
      refine zwM_ret (e := zm_130) (i := .ireturn) rfl rfl rfl ?_
      unfold rowA
      repeat' split
      all_goals first | rfl | (exfalso; omega)
    · show zwM 2 130 59 [some (.ref 58), some (.int r), some (.int l), some (.int n), some (.int x)] [] h _
      refine zwM_one (i := .aload_n 0) (e := zm_130) rfl rfl rfl rfl (fun _ => rfl) ?_
      show zwM 2 130 60 [some (.ref 58), some (.int r), some (.int l), some (.int n), some (.int x)] [.ref 58] h _
      refine zwM_one (i := .getfield 16) (e := zm_130) rfl rfl rfl rfl (fun _ => rfl) ?_
      show zwM 2 130 63 [some (.ref 58), some (.int r), some (.int l), some (.int n), some (.int x)] [.ref 61] h _
      refine zwM_one (i := .bipush 40) (e := zm_130) rfl rfl rfl rfl (fun _ => rfl) ?_
      show zwM 2 130 65 [some (.ref 58), some (.int r), some (.int l), some (.int n), some (.int x)] [.int (Int8.ofInt 40).toInt32, .ref 61] h _
      refine zwM_one (i := .iload_n 1) (e := zm_130) rfl rfl rfl rfl (fun _ => rfl) ?_
      show zwM 2 130 66 [some (.ref 58), some (.int r), some (.int l), some (.int n), some (.int x)] [.int r, .int (Int8.ofInt 40).toInt32, .ref 61] h _
      have e2 : ((Int8.ofInt 40).toInt32 * r).toInt = (40 * r.toInt) := (wk_mul (show (Int8.ofInt 40).toInt32.toInt = 40 by decide) rfl (by omega) (by omega))
      refine zwM_one (i := .imul) (e := zm_130) rfl rfl rfl rfl (fun _ => rfl) ?_
      show zwM 2 130 67 [some (.ref 58), some (.int r), some (.int l), some (.int n), some (.int x)] [.int ((Int8.ofInt 40).toInt32 * r), .ref 61] h _
      refine zwM_one (i := .iload 4) (e := zm_130) rfl rfl rfl rfl (fun _ => rfl) ?_
      show zwM 2 130 69 [some (.ref 58), some (.int r), some (.int l), some (.int n), some (.int x)] [.int x, .int ((Int8.ofInt 40).toInt32 * r), .ref 61] h _
      have e3 : (((Int8.ofInt 40).toInt32 * r) + x).toInt = ((40 * r.toInt) + x.toInt) := (wk_add e2 rfl (by omega) (by omega))
      refine zwM_one (i := .iadd) (e := zm_130) rfl rfl rfl rfl (fun _ => rfl) ?_
      show zwM 2 130 70 [some (.ref 58), some (.int r), some (.int l), some (.int n), some (.int x)] [.int (((Int8.ofInt 40).toInt32 * r) + x), .ref 61] h _
      refine zwM_one (i := .iconst 0) (e := zm_130) rfl rfl rfl rfl (fun _ => rfl) ?_
      show zwM 2 130 71 [some (.ref 58), some (.int r), some (.int l), some (.int n), some (.int x)] [.int (Int32.ofInt 0), .int (((Int8.ofInt 40).toInt32 * r) + x), .ref 61] h _
      refine wk_ias (e := zm_130) (n := 320) rfl rfl rfl e3 (by omega) (by omega) ?_
      show zwM 2 130 72 [some (.ref 58), some (.int r), some (.int l), some (.int n), some (.int x)] [] (zSet h 61 (((Int8.ofInt 40).toInt32 * r) + x).toNatClampNeg (Int32.ofInt 0)) _
      have e4 : (x + Int32.ofInt 1).toInt = (x.toInt + 1) := wk_add rfl (show (Int32.ofInt 1).toInt = 1 by decide) (by omega) (by omega)
      refine zwM_one (i := .iinc 4 1) (e := zm_130) rfl rfl rfl rfl (fun _ => rfl) ?_
      show zwM 2 130 75 [some (.ref 58), some (.int r), some (.int l), some (.int n), some (.int (x + Int32.ofInt 1))] [] (zSet h 61 (((Int8.ofInt 40).toInt32 * r) + x).toNatClampNeg (Int32.ofInt 0)) _
      refine zwM_one (i := .goto (-23)) (e := zm_130) rfl rfl rfl rfl (fun _ => rfl) ?_
      show zwM 2 130 52 [some (.ref 58), some (.int r), some (.int l), some (.int n), some (.int (x + Int32.ofInt 1))] [] (zSet h 61 (((Int8.ofInt 40).toInt32 * r) + x).toNatClampNeg (Int32.ofInt 0)) _
      exfalso
      omega
  | succ k ih =>
    intro x h hx h0
    have hx : x.toInt + ((k : Int) + 1) = 40 := hx
    refine zwM_one (i := .iload 4) (e := zm_130) rfl rfl rfl rfl (fun _ => rfl) ?_
    show zwM 2 130 54 [some (.ref 58), some (.int r), some (.int l), some (.int n), some (.int x)] [.int x] h _
    refine zwM_one (i := .bipush 40) (e := zm_130) rfl rfl rfl rfl (fun _ => rfl) ?_
    show zwM 2 130 56 [some (.ref 58), some (.int r), some (.int l), some (.int n), some (.int x)] [.int (Int8.ofInt 40).toInt32, .int x] h _
    refine wk_ic_ge (e := zm_130) (t := 78) rfl rfl rfl rfl (show (Int8.ofInt 40).toInt32.toInt = 40 by decide) (fun c1 => ?_) (fun c1 => ?_)
    · show zwM 2 130 78 [some (.ref 58), some (.int r), some (.int l), some (.int n), some (.int x)] [] h _
      refine zwM_one (i := .aload_n 0) (e := zm_130) rfl rfl rfl rfl (fun _ => rfl) ?_
      show zwM 2 130 79 [some (.ref 58), some (.int r), some (.int l), some (.int n), some (.int x)] [.ref 58] h _
      refine zwM_one (i := .iload_n 3) (e := zm_130) rfl rfl rfl rfl (fun _ => rfl) ?_
      show zwM 2 130 80 [some (.ref 58), some (.int r), some (.int l), some (.int n), some (.int x)] [.int n, .ref 58] h _
      refine wk_callV (e := zm_130) (M' := 126) (e' := zm_126) rfl rfl rfl rfl rfl ?_
      refine zm_imp (zm_le (show 0 ≤ 1 by decide) (f_126 h n)) (fun rv h' hr => ?_)
      rw [hr.1, hr.2]
      show zwM 2 130 83 [some (.ref 58), some (.int r), some (.int l), some (.int n), some (.int x)] [.int n] (zSet h 58 3 (Int32.ofInt 0)) _
      refine zwM_ret (e := zm_130) (i := .ireturn) rfl rfl rfl ?_
      unfold rowA
      repeat' split
      all_goals first | rfl | (exfalso; omega)
    · show zwM 2 130 59 [some (.ref 58), some (.int r), some (.int l), some (.int n), some (.int x)] [] h _
      refine zwM_one (i := .aload_n 0) (e := zm_130) rfl rfl rfl rfl (fun _ => rfl) ?_
      show zwM 2 130 60 [some (.ref 58), some (.int r), some (.int l), some (.int n), some (.int x)] [.ref 58] h _
      refine zwM_one (i := .getfield 16) (e := zm_130) rfl rfl rfl rfl (fun _ => rfl) ?_
      show zwM 2 130 63 [some (.ref 58), some (.int r), some (.int l), some (.int n), some (.int x)] [.ref 61] h _
      refine zwM_one (i := .bipush 40) (e := zm_130) rfl rfl rfl rfl (fun _ => rfl) ?_
      show zwM 2 130 65 [some (.ref 58), some (.int r), some (.int l), some (.int n), some (.int x)] [.int (Int8.ofInt 40).toInt32, .ref 61] h _
      refine zwM_one (i := .iload_n 1) (e := zm_130) rfl rfl rfl rfl (fun _ => rfl) ?_
      show zwM 2 130 66 [some (.ref 58), some (.int r), some (.int l), some (.int n), some (.int x)] [.int r, .int (Int8.ofInt 40).toInt32, .ref 61] h _
      have e2 : ((Int8.ofInt 40).toInt32 * r).toInt = (40 * r.toInt) := (wk_mul (show (Int8.ofInt 40).toInt32.toInt = 40 by decide) rfl (by omega) (by omega))
      refine zwM_one (i := .imul) (e := zm_130) rfl rfl rfl rfl (fun _ => rfl) ?_
      show zwM 2 130 67 [some (.ref 58), some (.int r), some (.int l), some (.int n), some (.int x)] [.int ((Int8.ofInt 40).toInt32 * r), .ref 61] h _
      refine zwM_one (i := .iload 4) (e := zm_130) rfl rfl rfl rfl (fun _ => rfl) ?_
      show zwM 2 130 69 [some (.ref 58), some (.int r), some (.int l), some (.int n), some (.int x)] [.int x, .int ((Int8.ofInt 40).toInt32 * r), .ref 61] h _
      have e3 : (((Int8.ofInt 40).toInt32 * r) + x).toInt = ((40 * r.toInt) + x.toInt) := (wk_add e2 rfl (by omega) (by omega))
      refine zwM_one (i := .iadd) (e := zm_130) rfl rfl rfl rfl (fun _ => rfl) ?_
      show zwM 2 130 70 [some (.ref 58), some (.int r), some (.int l), some (.int n), some (.int x)] [.int (((Int8.ofInt 40).toInt32 * r) + x), .ref 61] h _
      refine zwM_one (i := .iconst 0) (e := zm_130) rfl rfl rfl rfl (fun _ => rfl) ?_
      show zwM 2 130 71 [some (.ref 58), some (.int r), some (.int l), some (.int n), some (.int x)] [.int (Int32.ofInt 0), .int (((Int8.ofInt 40).toInt32 * r) + x), .ref 61] h _
      refine wk_ias (e := zm_130) (n := 320) rfl rfl rfl e3 (by omega) (by omega) ?_
      show zwM 2 130 72 [some (.ref 58), some (.int r), some (.int l), some (.int n), some (.int x)] [] (zSet h 61 (((Int8.ofInt 40).toInt32 * r) + x).toNatClampNeg (Int32.ofInt 0)) _
      have e4 : (x + Int32.ofInt 1).toInt = (x.toInt + 1) := wk_add rfl (show (Int32.ofInt 1).toInt = 1 by decide) (by omega) (by omega)
      refine zwM_one (i := .iinc 4 1) (e := zm_130) rfl rfl rfl rfl (fun _ => rfl) ?_
      show zwM 2 130 75 [some (.ref 58), some (.int r), some (.int l), some (.int n), some (.int (x + Int32.ofInt 1))] [] (zSet h 61 (((Int8.ofInt 40).toInt32 * r) + x).toNatClampNeg (Int32.ofInt 0)) _
      refine zwM_one (i := .goto (-23)) (e := zm_130) rfl rfl rfl rfl (fun _ => rfl) ?_
      show zwM 2 130 52 [some (.ref 58), some (.int r), some (.int l), some (.int n), some (.int (x + Int32.ofInt 1))] [] (zSet h 61 (((Int8.ofInt 40).toInt32 * r) + x).toNatClampNeg (Int32.ofInt 0)) _
      exact ih _ _ (by omega) (by omega)
set_option maxHeartbeats 1000000 in
theorem f_130 (h : zH) (r : Int32) (l : Int32) (n : Int32) : zm 2 130 [.ref 58, .int r, .int l, .int n] h (fun rv h' => rv = some (.int (rowA r l n))) := by
  refine zm_ofM (x := zm_130) rfl ?_
  show zwM 2 130 0 [some (.ref 58), some (.int r), some (.int l), some (.int n), none] [] h _
  refine zwM_one (i := .iload_n 1) (e := zm_130) rfl rfl rfl rfl (fun _ => rfl) ?_
  show zwM 2 130 1 [some (.ref 58), some (.int r), some (.int l), some (.int n), none] [.int r] h _
  refine zwM_callS (e := zm_130) (M' := 128) (e' := zm_128) rfl rfl rfl rfl rfl rfl ?_
  refine zm_imp (zm_le (show 1 ≤ 1 by decide) (f_128 h r)) (fun rv h' hr => ?_)
  rw [hr.1, hr.2]
  show zwM 2 130 4 [some (.ref 58), some (.int r), some (.int l), some (.int n), none] [.int (zbo (0 ≤ r.toInt ∧ r.toInt < 8))] h _
  refine wk_bEq (e := zm_130) (t := 22) rfl rfl rfl (fun c1 => ?_) (fun c1 => ?_)
  · show zwM 2 130 22 [some (.ref 58), some (.int r), some (.int l), some (.int n), none] [] h _
    refine zwM_one (i := .ldc 69) (e := zm_130) rfl rfl rfl rfl (fun _ => rfl) ?_
    show zwM 2 130 24 [some (.ref 58), some (.int r), some (.int l), some (.int n), none] [.int (-1000001 : Int32)] h _
    refine zwM_ret (e := zm_130) (i := .ireturn) rfl rfl rfl ?_
    unfold rowA
    repeat' split
    all_goals first | rfl | (exfalso; omega)
  · show zwM 2 130 7 [some (.ref 58), some (.int r), some (.int l), some (.int n), none] [] h _
    refine zwM_one (i := .iload_n 2) (e := zm_130) rfl rfl rfl rfl (fun _ => rfl) ?_
    show zwM 2 130 8 [some (.ref 58), some (.int r), some (.int l), some (.int n), none] [.int l] h _
    refine zwM_one (i := .iconst 0) (e := zm_130) rfl rfl rfl rfl (fun _ => rfl) ?_
    show zwM 2 130 9 [some (.ref 58), some (.int r), some (.int l), some (.int n), none] [.int (Int32.ofInt 0), .int l] h _
    refine zwM_one (i := .iconst 2) (e := zm_130) rfl rfl rfl rfl (fun _ => rfl) ?_
    show zwM 2 130 10 [some (.ref 58), some (.int r), some (.int l), some (.int n), none] [.int (Int32.ofInt 2), .int (Int32.ofInt 0), .int l] h _
    refine zwM_callS (e := zm_130) (M' := 121) (e' := zm_121) rfl rfl rfl rfl rfl rfl ?_
    refine zm_imp (zm_le (show 0 ≤ 1 by decide) (f_121 h l (Int32.ofInt 0) (Int32.ofInt 2))) (fun rv h' hr => ?_)
    rw [hr.1, hr.2]
    show zwM 2 130 13 [some (.ref 58), some (.int r), some (.int l), some (.int n), none] [.int (zbo (0 ≤ l.toInt ∧ l.toInt ≤ 2))] h _
    refine wk_bEq (e := zm_130) (t := 22) rfl rfl rfl (fun c2 => ?_) (fun c2 => ?_)
    · show zwM 2 130 22 [some (.ref 58), some (.int r), some (.int l), some (.int n), none] [] h _
      refine zwM_one (i := .ldc 69) (e := zm_130) rfl rfl rfl rfl (fun _ => rfl) ?_
      show zwM 2 130 24 [some (.ref 58), some (.int r), some (.int l), some (.int n), none] [.int (-1000001 : Int32)] h _
      refine zwM_ret (e := zm_130) (i := .ireturn) rfl rfl rfl ?_
      unfold rowA
      repeat' split
      all_goals first | rfl | (exfalso; omega)
    · show zwM 2 130 16 [some (.ref 58), some (.int r), some (.int l), some (.int n), none] [] h _
      refine zwM_one (i := .iload_n 3) (e := zm_130) rfl rfl rfl rfl (fun _ => rfl) ?_
      show zwM 2 130 17 [some (.ref 58), some (.int r), some (.int l), some (.int n), none] [.int n] h _
      refine zwM_one (i := .bipush 40) (e := zm_130) rfl rfl rfl rfl (fun _ => rfl) ?_
      show zwM 2 130 19 [some (.ref 58), some (.int r), some (.int l), some (.int n), none] [.int (Int8.ofInt 40).toInt32, .int n] h _
      refine wk_ic_le (e := zm_130) (t := 25) rfl rfl rfl rfl (show (Int8.ofInt 40).toInt32.toInt = 40 by decide) (fun c3 => ?_) (fun c3 => ?_)
      · show zwM 2 130 25 [some (.ref 58), some (.int r), some (.int l), some (.int n), none] [] h _
        refine zwM_one (i := .iload_n 3) (e := zm_130) rfl rfl rfl rfl (fun _ => rfl) ?_
        show zwM 2 130 26 [some (.ref 58), some (.int r), some (.int l), some (.int n), none] [.int n] h _
        refine wk_if_ge (e := zm_130) (t := 35) rfl rfl rfl rfl (fun c4 => ?_) (fun c4 => ?_)
        · show zwM 2 130 35 [some (.ref 58), some (.int r), some (.int l), some (.int n), none] [] h _
          refine zwM_one (i := .aload_n 0) (e := zm_130) rfl rfl rfl rfl (fun _ => rfl) ?_
          show zwM 2 130 36 [some (.ref 58), some (.int r), some (.int l), some (.int n), none] [.ref 58] h _
          refine zwM_one (i := .getfield 7) (e := zm_130) rfl rfl rfl rfl (fun _ => rfl) ?_
          show zwM 2 130 39 [some (.ref 58), some (.int r), some (.int l), some (.int n), none] [.ref 59] h _
          refine zwM_one (i := .iload_n 1) (e := zm_130) rfl rfl rfl rfl (fun _ => rfl) ?_
          show zwM 2 130 40 [some (.ref 58), some (.int r), some (.int l), some (.int n), none] [.int r, .ref 59] h _
          refine zwM_one (i := .iload_n 2) (e := zm_130) rfl rfl rfl rfl (fun _ => rfl) ?_
          show zwM 2 130 41 [some (.ref 58), some (.int r), some (.int l), some (.int n), none] [.int l, .int r, .ref 59] h _
          refine wk_ias (e := zm_130) (n := 8) rfl rfl rfl rfl (by omega) (by omega) ?_
          show zwM 2 130 42 [some (.ref 58), some (.int r), some (.int l), some (.int n), none] [] (zSet h 59 r.toNatClampNeg l) _
          refine zwM_one (i := .aload_n 0) (e := zm_130) rfl rfl rfl rfl (fun _ => rfl) ?_
          show zwM 2 130 43 [some (.ref 58), some (.int r), some (.int l), some (.int n), none] [.ref 58] (zSet h 59 r.toNatClampNeg l) _
          refine zwM_one (i := .getfield 13) (e := zm_130) rfl rfl rfl rfl (fun _ => rfl) ?_
          show zwM 2 130 46 [some (.ref 58), some (.int r), some (.int l), some (.int n), none] [.ref 60] (zSet h 59 r.toNatClampNeg l) _
          refine zwM_one (i := .iload_n 1) (e := zm_130) rfl rfl rfl rfl (fun _ => rfl) ?_
          show zwM 2 130 47 [some (.ref 58), some (.int r), some (.int l), some (.int n), none] [.int r, .ref 60] (zSet h 59 r.toNatClampNeg l) _
          refine zwM_one (i := .iload_n 3) (e := zm_130) rfl rfl rfl rfl (fun _ => rfl) ?_
          show zwM 2 130 48 [some (.ref 58), some (.int r), some (.int l), some (.int n), none] [.int n, .int r, .ref 60] (zSet h 59 r.toNatClampNeg l) _
          refine wk_ias (e := zm_130) (n := 8) rfl rfl rfl rfl (by omega) (by omega) ?_
          show zwM 2 130 49 [some (.ref 58), some (.int r), some (.int l), some (.int n), none] [] (zSet (zSet h 59 r.toNatClampNeg l) 60 r.toNatClampNeg n) _
          refine zwM_one (i := .iconst 0) (e := zm_130) rfl rfl rfl rfl (fun _ => rfl) ?_
          show zwM 2 130 50 [some (.ref 58), some (.int r), some (.int l), some (.int n), none] [.int (Int32.ofInt 0)] (zSet (zSet h 59 r.toNatClampNeg l) 60 r.toNatClampNeg n) _
          refine zwM_one (i := .istore 4) (e := zm_130) rfl rfl rfl rfl (fun _ => rfl) ?_
          show zwM 2 130 52 [some (.ref 58), some (.int r), some (.int l), some (.int n), some (.int (Int32.ofInt 0))] [] (zSet (zSet h 59 r.toNatClampNeg l) 60 r.toNatClampNeg n) _
          exact f_130_l r l n (by omega) (by omega) (by omega) (by omega) 40 _ _ (by decide) (by decide)
        · show zwM 2 130 29 [some (.ref 58), some (.int r), some (.int l), some (.int n), none] [] h _
          refine zwM_one (i := .aload_n 0) (e := zm_130) rfl rfl rfl rfl (fun _ => rfl) ?_
          show zwM 2 130 30 [some (.ref 58), some (.int r), some (.int l), some (.int n), none] [.ref 58] h _
          refine zwM_one (i := .iconst 4) (e := zm_130) rfl rfl rfl rfl (fun _ => rfl) ?_
          show zwM 2 130 31 [some (.ref 58), some (.int r), some (.int l), some (.int n), none] [.int (Int32.ofInt 4), .ref 58] h _
          refine wk_callV (e := zm_130) (M' := 125) (e' := zm_125) rfl rfl rfl rfl rfl ?_
          refine zm_imp (zm_le (show 0 ≤ 1 by decide) (f_125 h (Int32.ofInt 4))) (fun rv h' hr => ?_)
          rw [hr.1, hr.2]
          show zwM 2 130 34 [some (.ref 58), some (.int r), some (.int l), some (.int n), none] [.int ((-1000010 : Int32) - (Int32.ofInt 4))] (zSet h 58 3 (Int32.ofInt 4)) _
          refine zwM_ret (e := zm_130) (i := .ireturn) rfl rfl rfl ?_
          unfold rowA
          repeat' split
          all_goals first | rfl | (exfalso; omega)
      · show zwM 2 130 22 [some (.ref 58), some (.int r), some (.int l), some (.int n), none] [] h _
        refine zwM_one (i := .ldc 69) (e := zm_130) rfl rfl rfl rfl (fun _ => rfl) ?_
        show zwM 2 130 24 [some (.ref 58), some (.int r), some (.int l), some (.int n), none] [.int (-1000001 : Int32)] h _
        refine zwM_ret (e := zm_130) (i := .ireturn) rfl rfl rfl ?_
        unfold rowA
        repeat' split
        all_goals first | rfl | (exfalso; omega)

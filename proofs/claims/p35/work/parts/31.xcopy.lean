/-! move and the reference's copy come to an end, whatever they are asked -/
section XC
variable {d M pc : Nat} {e : zE} {L : zLo} {S : List Value} {h g : zH} {Q : Option Value → zH → Prop}
theorem wk_copy {k pos q0 q1 n0 n1 : Nat} {c sp dp : Int32} (hM : zP[M]? = some e) (hf : zFind pc (zk e) = some (.invokestatic k)) (ha : zFind k (zAT.getD (zo e) []) = some pos) (h0 : lay[q0]? = some (.inr (.inl n0))) (h1 : lay[q1]? = some (.inr (.inl n1))) (b : 0 ≤ sp.toInt ∧ 0 ≤ dp.toInt ∧ 0 ≤ c.toInt ∧ sp.toInt + c.toInt ≤ (n0 : Int) ∧ dp.toInt + c.toInt ≤ (n1 : Int)) (hc : Nat.ble (zCat S) 8 = true) (hw : zwM d M (pc + 3) L S (va_up h.1 q1 (va_cpy (h.1 q0) (h.1 q1) sp.toNatClampNeg dp.toNatClampNeg c.toNatClampNeg), h.2) Q) : zwM d M pc L (.int c :: .int dp :: .ref q1 :: .int sp :: .ref q0 :: S) h Q := by
  obtain ⟨e', he', hw⟩ := hw
  cases hM.symm.trans he'
  refine ⟨e, hM, zw_copy (r := (S, (va_up h.1 q1 (va_cpy (h.1 q0) (h.1 q1) sp.toNatClampNeg dp.toNatClampNeg c.toNatClampNeg), h.2))) hf ha ?_ hw⟩
  unfold zCopy
  dsimp only
  rw [h0, h1]
  dsimp only
  have a1 : sp.toNatClampNeg = sp.toInt.toNat := rfl
  have a2 : dp.toNatClampNeg = dp.toInt.toNat := rfl
  have a3 : c.toNatClampNeg = c.toInt.toNat := rfl
  have hz : (0 : Int32).toInt = 0 := rfl
  have h8 := Nat.le_of_ble_eq_true hc
  rw [if_neg (by
    simp only [not_or, Int32.lt_iff_toInt_lt, hz, a1, a2, a3]
    omega)]
theorem ty_set {q j : Nat} {x : Int32} (ht : hTy h) (hq : tTy q j = (iMin, iMax)) : hTy (zSet h q j x) := fun q' j' => by
  by_cases z : q' = q ∧ j' = j
  · rw [z.1, z.2, hq, wk_at]
    exact ⟨(rOk_i.mp (rIn_i x)).1, (rOk_i.mp (rIn_i x)).2⟩
  · rw [wk_ne (by
      by_cases y : q' = q
      · exact Or.inr (fun u => z ⟨y, u⟩)
      · exact Or.inl y)]
    exact ht q' j'
theorem ty_up {q : Nat} {f : Nat → Int32} (ht : hTy h) (hq : ∀ j, tTy q j = (iMin, iMax)) : hTy (va_up h.1 q f, h.2) := fun q' j' => by
  by_cases z : q' = q
  · show (tTy q' j').1 ≤ (va_up h.1 q f q' j').toInt ∧ _
    rw [z, hq j', va_up_self]
    exact ⟨(rOk_i.mp (rIn_i _)).1, (rOk_i.mp (rIn_i _)).2⟩
  · show (tTy q' j').1 ≤ (va_up h.1 q f q' j').toInt ∧ (va_up h.1 q f q' j').toInt ≤ _
    rw [va_up_ne _ _ z]
    exact ht q' j'
theorem tItem : ∀ r, r < 8 → ∀ j, tTy (3 + r) j = (iMin, iMax)
  | 0, _, _ => rfl
  | 1, _, _ => rfl
  | 2, _, _ => rfl
  | 3, _, _ => rfl
  | 4, _, _ => rfl
  | 5, _, _ => rfl
  | 6, _, _ => rfl
  | 7, _, _ => rfl
  | n + 8, hn, _ => absurd hn (by omega)
theorem W_set {W : List (Nat × Nat × Nat)} {q j : Nat} {x : Int32} (hw : hW W g h) (hm : ∃ w ∈ W, w.1 = q ∧ w.2.1 ≤ j ∧ j ≤ w.2.2) : hW W g (zSet h q j x) := fun q' j' hn => by
  obtain ⟨w, wm, w1, w2, w3⟩ := hm
  rw [wk_ne (by
    by_cases y : q' = q
    · right
      intro u
      subst y
      subst u
      exact hn w wm ⟨w1, w2, w3⟩
    · exact Or.inl y)]
  exact hw q' j' hn
theorem W_up {W : List (Nat × Nat × Nat)} {q sp dp n : Nat} {f : Nat → Int32} (hm : ∃ w ∈ W, w.1 = q ∧ w.2.1 = 0 ∧ dp + n ≤ w.2.2 + 1) : hW W h (va_up h.1 q (va_cpy f (h.1 q) sp dp n), h.2) := fun q' j' hn => by
  obtain ⟨w, wm, w1, w2, w3⟩ := hm
  show va_up h.1 q (va_cpy f (h.1 q) sp dp n) q' j' = h.1 q' j'
  by_cases y : q' = q
  · subst y
    rw [va_up_self]
    unfold va_cpy
    rw [if_neg (fun z => hn w wm ⟨w1, by omega, by omega⟩)]
  · rw [va_up_ne _ _ y]
end XC
abbrev Wmv : List (Nat × Nat × Nat) := [(3, 0, 40), (4, 0, 40), (5, 0, 40), (6, 0, 40), (7, 0, 40), (8, 0, 40), (9, 0, 40), (10, 0, 40)]
abbrev Wcp : List (Nat × Nat × Nat) := [(58, 3, 3), (61, 0, 320)]
theorem Wmv_in : ∀ r, r < 8 → ∃ w ∈ Wmv, w.1 = 3 + r ∧ w.2.1 = 0 ∧ w.2.2 = 40 := by decide
theorem tLe0 (h : zH) (ht : hTy h) (j : Nat) : (h.1 12 j).toInt ≤ 40 := (ht 12 j).2
theorem tSz0 (h : zH) (ht : hTy h) (j : Nat) : 0 ≤ (h.1 60 j).toInt ∧ (h.1 60 j).toInt ≤ 40 := ht 60 j
set_option maxHeartbeats 1000000 in
theorem f_68 (h : zH) (r : Int32) : zm 0 68 [.int r] h (fun rv h' => rv = some (.int (zbo (0 ≤ r.toInt ∧ r.toInt < 8))) ∧ h' = h) := by
  refine zm_ofM (x := zm_68) rfl ?_
  show zwM 0 68 0 [some (.int r)] [] h _
  refine zwM_one (i := .iload_n 0) (e := zm_68) rfl rfl rfl rfl (fun _ => rfl) ?_
  show zwM 0 68 1 [some (.int r)] [.int r] h _
  refine wk_if_lt (e := zm_68) (t := 14) rfl rfl rfl rfl (fun c1 => ?_) (fun c1 => ?_)
  · show zwM 0 68 14 [some (.int r)] [] h _
    refine zwM_one (i := .iconst 0) (e := zm_68) rfl rfl rfl rfl (fun _ => rfl) ?_
    show zwM 0 68 15 [some (.int r)] [.int (Int32.ofInt 0)] h _
    refine zwM_ret (e := zm_68) (i := .ireturn) rfl rfl rfl ?_
    exact ⟨zboF (by omega), rfl⟩
  · show zwM 0 68 4 [some (.int r)] [] h _
    refine zwM_one (i := .iload_n 0) (e := zm_68) rfl rfl rfl rfl (fun _ => rfl) ?_
    show zwM 0 68 5 [some (.int r)] [.int r] h _
    refine zwM_one (i := .bipush 8) (e := zm_68) rfl rfl rfl rfl (fun _ => rfl) ?_
    show zwM 0 68 7 [some (.int r)] [.int (Int8.ofInt 8).toInt32, .int r] h _
    refine wk_ic_ge (e := zm_68) (t := 14) rfl rfl rfl rfl (show (Int8.ofInt 8).toInt32.toInt = 8 by decide) (fun c2 => ?_) (fun c2 => ?_)
    · show zwM 0 68 14 [some (.int r)] [] h _
      refine zwM_one (i := .iconst 0) (e := zm_68) rfl rfl rfl rfl (fun _ => rfl) ?_
      show zwM 0 68 15 [some (.int r)] [.int (Int32.ofInt 0)] h _
      refine zwM_ret (e := zm_68) (i := .ireturn) rfl rfl rfl ?_
      exact ⟨zboF (by omega), rfl⟩
    · show zwM 0 68 10 [some (.int r)] [] h _
      refine zwM_one (i := .iconst 1) (e := zm_68) rfl rfl rfl rfl (fun _ => rfl) ?_
      show zwM 0 68 11 [some (.int r)] [.int (Int32.ofInt 1)] h _
      refine zwM_one (i := .goto 4) (e := zm_68) rfl rfl rfl rfl (fun _ => rfl) ?_
      show zwM 0 68 15 [some (.int r)] [.int (Int32.ofInt 1)] h _
      refine zwM_ret (e := zm_68) (i := .ireturn) rfl rfl rfl ?_
      exact ⟨zboT (by omega), rfl⟩
set_option maxHeartbeats 1000000 in
theorem f_71 (h : zH) (r : Int32) (i : Int32) (n : Int32) (ht : hTy h) : zm 1 71 [.ref 1, .int r, .int i, .int n] h (fun rv h' => rv = some (.int (zbo ((0 ≤ r.toInt ∧ r.toInt < 8) ∧ 0 ≤ i.toInt ∧ 0 ≤ n.toInt ∧ i.toInt ≤ (h.1 12 r.toNatClampNeg).toInt ∧ n.toInt ≤ (h.1 12 r.toNatClampNeg).toInt - i.toInt))) ∧ h' = h) := by
  have hle := tLe0 h ht r.toNatClampNeg
  refine zm_ofM (x := zm_71) rfl ?_
  show zwM 1 71 0 [some (.ref 1), some (.int r), some (.int i), some (.int n)] [] h _
  refine zwM_one (i := .iload_n 1) (e := zm_71) rfl rfl rfl rfl (fun _ => rfl) ?_
  show zwM 1 71 1 [some (.ref 1), some (.int r), some (.int i), some (.int n)] [.int r] h _
  refine zwM_callS (e := zm_71) (M' := 68) (e' := zm_68) rfl rfl rfl rfl rfl rfl ?_
  refine zm_imp (zm_le (show 0 ≤ 0 by decide) (f_68 h r)) (fun rv h' hr => ?_)
  rw [hr.1, hr.2]
  show zwM 1 71 4 [some (.ref 1), some (.int r), some (.int i), some (.int n)] [.int (zbo (0 ≤ r.toInt ∧ r.toInt < 8))] h _
  refine wk_bEq (e := zm_71) (t := 41) rfl rfl rfl (fun c1 => ?_) (fun c1 => ?_)
  · show zwM 1 71 41 [some (.ref 1), some (.int r), some (.int i), some (.int n)] [] h _
    refine zwM_one (i := .iconst 0) (e := zm_71) rfl rfl rfl rfl (fun _ => rfl) ?_
    show zwM 1 71 42 [some (.ref 1), some (.int r), some (.int i), some (.int n)] [.int (Int32.ofInt 0)] h _
    refine zwM_ret (e := zm_71) (i := .ireturn) rfl rfl rfl ?_
    exact ⟨zboF (by omega), rfl⟩
  · show zwM 1 71 7 [some (.ref 1), some (.int r), some (.int i), some (.int n)] [] h _
    refine zwM_one (i := .iload_n 2) (e := zm_71) rfl rfl rfl rfl (fun _ => rfl) ?_
    show zwM 1 71 8 [some (.ref 1), some (.int r), some (.int i), some (.int n)] [.int i] h _
    refine wk_if_lt (e := zm_71) (t := 41) rfl rfl rfl rfl (fun c2 => ?_) (fun c2 => ?_)
    · show zwM 1 71 41 [some (.ref 1), some (.int r), some (.int i), some (.int n)] [] h _
      refine zwM_one (i := .iconst 0) (e := zm_71) rfl rfl rfl rfl (fun _ => rfl) ?_
      show zwM 1 71 42 [some (.ref 1), some (.int r), some (.int i), some (.int n)] [.int (Int32.ofInt 0)] h _
      refine zwM_ret (e := zm_71) (i := .ireturn) rfl rfl rfl ?_
      exact ⟨zboF (by omega), rfl⟩
    · show zwM 1 71 11 [some (.ref 1), some (.int r), some (.int i), some (.int n)] [] h _
      refine zwM_one (i := .iload_n 3) (e := zm_71) rfl rfl rfl rfl (fun _ => rfl) ?_
      show zwM 1 71 12 [some (.ref 1), some (.int r), some (.int i), some (.int n)] [.int n] h _
      refine wk_if_lt (e := zm_71) (t := 41) rfl rfl rfl rfl (fun c3 => ?_) (fun c3 => ?_)
      · show zwM 1 71 41 [some (.ref 1), some (.int r), some (.int i), some (.int n)] [] h _
        refine zwM_one (i := .iconst 0) (e := zm_71) rfl rfl rfl rfl (fun _ => rfl) ?_
        show zwM 1 71 42 [some (.ref 1), some (.int r), some (.int i), some (.int n)] [.int (Int32.ofInt 0)] h _
        refine zwM_ret (e := zm_71) (i := .ireturn) rfl rfl rfl ?_
        exact ⟨zboF (by omega), rfl⟩
      · show zwM 1 71 15 [some (.ref 1), some (.int r), some (.int i), some (.int n)] [] h _
        refine zwM_one (i := .iload_n 2) (e := zm_71) rfl rfl rfl rfl (fun _ => rfl) ?_
        show zwM 1 71 16 [some (.ref 1), some (.int r), some (.int i), some (.int n)] [.int i] h _
        refine zwM_one (i := .aload_n 0) (e := zm_71) rfl rfl rfl rfl (fun _ => rfl) ?_
        show zwM 1 71 17 [some (.ref 1), some (.int r), some (.int i), some (.int n)] [.ref 1, .int i] h _
        refine zwM_one (i := .getfield 18) (e := zm_71) rfl rfl rfl rfl (fun _ => rfl) ?_
        show zwM 1 71 20 [some (.ref 1), some (.int r), some (.int i), some (.int n)] [.ref 12, .int i] h _
        refine zwM_one (i := .iload_n 1) (e := zm_71) rfl rfl rfl rfl (fun _ => rfl) ?_
        show zwM 1 71 21 [some (.ref 1), some (.int r), some (.int i), some (.int n)] [.int r, .ref 12, .int i] h _
        refine wk_ial (e := zm_71) (n := 8) (f := h.1 12) rfl rfl rfl rfl (by omega) (by omega) ?_
        show zwM 1 71 22 [some (.ref 1), some (.int r), some (.int i), some (.int n)] [.int (h.1 12 r.toNatClampNeg), .int i] h _
        refine wk_ic_gt (e := zm_71) (t := 41) rfl rfl rfl rfl rfl (fun c4 => ?_) (fun c4 => ?_)
        · show zwM 1 71 41 [some (.ref 1), some (.int r), some (.int i), some (.int n)] [] h _
          refine zwM_one (i := .iconst 0) (e := zm_71) rfl rfl rfl rfl (fun _ => rfl) ?_
          show zwM 1 71 42 [some (.ref 1), some (.int r), some (.int i), some (.int n)] [.int (Int32.ofInt 0)] h _
          refine zwM_ret (e := zm_71) (i := .ireturn) rfl rfl rfl ?_
          exact ⟨zboF (by omega), rfl⟩
        · show zwM 1 71 25 [some (.ref 1), some (.int r), some (.int i), some (.int n)] [] h _
          refine zwM_one (i := .iload_n 3) (e := zm_71) rfl rfl rfl rfl (fun _ => rfl) ?_
          show zwM 1 71 26 [some (.ref 1), some (.int r), some (.int i), some (.int n)] [.int n] h _
          refine zwM_one (i := .aload_n 0) (e := zm_71) rfl rfl rfl rfl (fun _ => rfl) ?_
          show zwM 1 71 27 [some (.ref 1), some (.int r), some (.int i), some (.int n)] [.ref 1, .int n] h _
          refine zwM_one (i := .getfield 18) (e := zm_71) rfl rfl rfl rfl (fun _ => rfl) ?_
          show zwM 1 71 30 [some (.ref 1), some (.int r), some (.int i), some (.int n)] [.ref 12, .int n] h _
          refine zwM_one (i := .iload_n 1) (e := zm_71) rfl rfl rfl rfl (fun _ => rfl) ?_
          show zwM 1 71 31 [some (.ref 1), some (.int r), some (.int i), some (.int n)] [.int r, .ref 12, .int n] h _
          refine wk_ial (e := zm_71) (n := 8) (f := h.1 12) rfl rfl rfl rfl (by omega) (by omega) ?_
          show zwM 1 71 32 [some (.ref 1), some (.int r), some (.int i), some (.int n)] [.int (h.1 12 r.toNatClampNeg), .int n] h _
          refine zwM_one (i := .iload_n 2) (e := zm_71) rfl rfl rfl rfl (fun _ => rfl) ?_
          show zwM 1 71 33 [some (.ref 1), some (.int r), some (.int i), some (.int n)] [.int i, .int (h.1 12 r.toNatClampNeg), .int n] h _
          have e5 : ((h.1 12 r.toNatClampNeg) - i).toInt = ((h.1 12 r.toNatClampNeg).toInt - i.toInt) := (wk_sub rfl rfl (by omega) (by omega))
          refine zwM_one (i := .isub) (e := zm_71) rfl rfl rfl rfl (fun _ => rfl) ?_
          show zwM 1 71 34 [some (.ref 1), some (.int r), some (.int i), some (.int n)] [.int ((h.1 12 r.toNatClampNeg) - i), .int n] h _
          refine wk_ic_gt (e := zm_71) (t := 41) rfl rfl rfl rfl e5 (fun c6 => ?_) (fun c6 => ?_)
          · show zwM 1 71 41 [some (.ref 1), some (.int r), some (.int i), some (.int n)] [] h _
            refine zwM_one (i := .iconst 0) (e := zm_71) rfl rfl rfl rfl (fun _ => rfl) ?_
            show zwM 1 71 42 [some (.ref 1), some (.int r), some (.int i), some (.int n)] [.int (Int32.ofInt 0)] h _
            refine zwM_ret (e := zm_71) (i := .ireturn) rfl rfl rfl ?_
            exact ⟨zboF (by omega), rfl⟩
          · show zwM 1 71 37 [some (.ref 1), some (.int r), some (.int i), some (.int n)] [] h _
            refine zwM_one (i := .iconst 1) (e := zm_71) rfl rfl rfl rfl (fun _ => rfl) ?_
            show zwM 1 71 38 [some (.ref 1), some (.int r), some (.int i), some (.int n)] [.int (Int32.ofInt 1)] h _
            refine zwM_one (i := .goto 4) (e := zm_71) rfl rfl rfl rfl (fun _ => rfl) ?_
            show zwM 1 71 42 [some (.ref 1), some (.int r), some (.int i), some (.int n)] [.int (Int32.ofInt 1)] h _
            refine zwM_ret (e := zm_71) (i := .ireturn) rfl rfl rfl ?_
            exact ⟨zboT (by omega), rfl⟩
set_option maxHeartbeats 1000000 in
theorem f_79 (h : zH) (a : Int32) (i : Int32) (b : Int32) (j : Int32) (n : Int32) (ht : hTy h) : zm 2 79 [.ref 1, .int a, .int i, .int b, .int j, .int n] h (fun rv h' => rv = none ∧ hTy h' ∧ hW Wmv h h') := by
  have hle := tLe0 h ht a.toNatClampNeg
  have hle2 := tLe0 h ht b.toNatClampNeg
  refine zm_ofM (x := zm_79) rfl ?_
  show zwM 2 79 0 [some (.ref 1), some (.int a), some (.int i), some (.int b), some (.int j), some (.int n)] [] h _
  refine zwM_one (i := .aload_n 0) (e := zm_79) rfl rfl rfl rfl (fun _ => rfl) ?_
  show zwM 2 79 1 [some (.ref 1), some (.int a), some (.int i), some (.int b), some (.int j), some (.int n)] [.ref 1] h _
  refine zwM_one (i := .iload_n 1) (e := zm_79) rfl rfl rfl rfl (fun _ => rfl) ?_
  show zwM 2 79 2 [some (.ref 1), some (.int a), some (.int i), some (.int b), some (.int j), some (.int n)] [.int a, .ref 1] h _
  refine zwM_one (i := .iload_n 2) (e := zm_79) rfl rfl rfl rfl (fun _ => rfl) ?_
  show zwM 2 79 3 [some (.ref 1), some (.int a), some (.int i), some (.int b), some (.int j), some (.int n)] [.int i, .int a, .ref 1] h _
  refine zwM_one (i := .iload 5) (e := zm_79) rfl rfl rfl rfl (fun _ => rfl) ?_
  show zwM 2 79 5 [some (.ref 1), some (.int a), some (.int i), some (.int b), some (.int j), some (.int n)] [.int n, .int i, .int a, .ref 1] h _
  refine wk_callV (e := zm_79) (M' := 71) (e' := zm_71) rfl rfl rfl rfl rfl ?_
  refine zm_imp (zm_le (show 1 ≤ 1 by decide) (f_71 h a i n ht)) (fun rv h' hr => ?_)
  rw [hr.1, hr.2]
  show zwM 2 79 8 [some (.ref 1), some (.int a), some (.int i), some (.int b), some (.int j), some (.int n)] [.int (zbo ((0 ≤ a.toInt ∧ a.toInt < 8) ∧ 0 ≤ i.toInt ∧ 0 ≤ n.toInt ∧ i.toInt ≤ (h.1 12 a.toNatClampNeg).toInt ∧ n.toInt ≤ (h.1 12 a.toNatClampNeg).toInt - i.toInt))] h _
  refine wk_bEq (e := zm_79) (t := 43) rfl rfl rfl (fun c1 => ?_) (fun c1 => ?_)
  · show zwM 2 79 43 [some (.ref 1), some (.int a), some (.int i), some (.int b), some (.int j), some (.int n)] [] h _
    refine zwM_ret (e := zm_79) (i := .return_) rfl rfl rfl ?_
    exact ⟨rfl, ht, hW.rf⟩
  · show zwM 2 79 11 [some (.ref 1), some (.int a), some (.int i), some (.int b), some (.int j), some (.int n)] [] h _
    refine zwM_one (i := .aload_n 0) (e := zm_79) rfl rfl rfl rfl (fun _ => rfl) ?_
    show zwM 2 79 12 [some (.ref 1), some (.int a), some (.int i), some (.int b), some (.int j), some (.int n)] [.ref 1] h _
    refine zwM_one (i := .iload_n 3) (e := zm_79) rfl rfl rfl rfl (fun _ => rfl) ?_
    show zwM 2 79 13 [some (.ref 1), some (.int a), some (.int i), some (.int b), some (.int j), some (.int n)] [.int b, .ref 1] h _
    refine zwM_one (i := .iload 4) (e := zm_79) rfl rfl rfl rfl (fun _ => rfl) ?_
    show zwM 2 79 15 [some (.ref 1), some (.int a), some (.int i), some (.int b), some (.int j), some (.int n)] [.int j, .int b, .ref 1] h _
    refine zwM_one (i := .iload 5) (e := zm_79) rfl rfl rfl rfl (fun _ => rfl) ?_
    show zwM 2 79 17 [some (.ref 1), some (.int a), some (.int i), some (.int b), some (.int j), some (.int n)] [.int n, .int j, .int b, .ref 1] h _
    refine wk_callV (e := zm_79) (M' := 71) (e' := zm_71) rfl rfl rfl rfl rfl ?_
    refine zm_imp (zm_le (show 1 ≤ 1 by decide) (f_71 h b j n ht)) (fun rv h' hr => ?_)
    rw [hr.1, hr.2]
    show zwM 2 79 20 [some (.ref 1), some (.int a), some (.int i), some (.int b), some (.int j), some (.int n)] [.int (zbo ((0 ≤ b.toInt ∧ b.toInt < 8) ∧ 0 ≤ j.toInt ∧ 0 ≤ n.toInt ∧ j.toInt ≤ (h.1 12 b.toNatClampNeg).toInt ∧ n.toInt ≤ (h.1 12 b.toNatClampNeg).toInt - j.toInt))] h _
    refine wk_bEq (e := zm_79) (t := 43) rfl rfl rfl (fun c2 => ?_) (fun c2 => ?_)
    · show zwM 2 79 43 [some (.ref 1), some (.int a), some (.int i), some (.int b), some (.int j), some (.int n)] [] h _
      refine zwM_ret (e := zm_79) (i := .return_) rfl rfl rfl ?_
      exact ⟨rfl, ht, hW.rf⟩
    · show zwM 2 79 23 [some (.ref 1), some (.int a), some (.int i), some (.int b), some (.int j), some (.int n)] [] h _
      refine zwM_one (i := .aload_n 0) (e := zm_79) rfl rfl rfl rfl (fun _ => rfl) ?_
      show zwM 2 79 24 [some (.ref 1), some (.int a), some (.int i), some (.int b), some (.int j), some (.int n)] [.ref 1] h _
      refine zwM_one (i := .getfield 11) (e := zm_79) rfl rfl rfl rfl (fun _ => rfl) ?_
      show zwM 2 79 27 [some (.ref 1), some (.int a), some (.int i), some (.int b), some (.int j), some (.int n)] [.ref 2] h _
      refine zwM_one (i := .iload_n 1) (e := zm_79) rfl rfl rfl rfl (fun _ => rfl) ?_
      show zwM 2 79 28 [some (.ref 1), some (.int a), some (.int i), some (.int b), some (.int j), some (.int n)] [.int a, .ref 2] h _
      refine wk_aal (e := zm_79) (q' := (3 + a.toNatClampNeg)) rfl rfl rfl rfl (by omega) (by show _ < (8 : Int); omega) (wk_itemk (by omega) (by omega)) ?_
      show zwM 2 79 29 [some (.ref 1), some (.int a), some (.int i), some (.int b), some (.int j), some (.int n)] [.ref (3 + a.toNatClampNeg)] h _
      refine zwM_one (i := .iload_n 2) (e := zm_79) rfl rfl rfl rfl (fun _ => rfl) ?_
      show zwM 2 79 30 [some (.ref 1), some (.int a), some (.int i), some (.int b), some (.int j), some (.int n)] [.int i, .ref (3 + a.toNatClampNeg)] h _
      refine zwM_one (i := .aload_n 0) (e := zm_79) rfl rfl rfl rfl (fun _ => rfl) ?_
      show zwM 2 79 31 [some (.ref 1), some (.int a), some (.int i), some (.int b), some (.int j), some (.int n)] [.ref 1, .int i, .ref (3 + a.toNatClampNeg)] h _
      refine zwM_one (i := .getfield 11) (e := zm_79) rfl rfl rfl rfl (fun _ => rfl) ?_
      show zwM 2 79 34 [some (.ref 1), some (.int a), some (.int i), some (.int b), some (.int j), some (.int n)] [.ref 2, .int i, .ref (3 + a.toNatClampNeg)] h _
      refine zwM_one (i := .iload_n 3) (e := zm_79) rfl rfl rfl rfl (fun _ => rfl) ?_
      show zwM 2 79 35 [some (.ref 1), some (.int a), some (.int i), some (.int b), some (.int j), some (.int n)] [.int b, .ref 2, .int i, .ref (3 + a.toNatClampNeg)] h _
      refine wk_aal (e := zm_79) (q' := (3 + b.toNatClampNeg)) rfl rfl rfl rfl (by omega) (by show _ < (8 : Int); omega) (wk_itemk (by omega) (by omega)) ?_
      show zwM 2 79 36 [some (.ref 1), some (.int a), some (.int i), some (.int b), some (.int j), some (.int n)] [.ref (3 + b.toNatClampNeg), .int i, .ref (3 + a.toNatClampNeg)] h _
      refine zwM_one (i := .iload 4) (e := zm_79) rfl rfl rfl rfl (fun _ => rfl) ?_
      show zwM 2 79 38 [some (.ref 1), some (.int a), some (.int i), some (.int b), some (.int j), some (.int n)] [.int j, .ref (3 + b.toNatClampNeg), .int i, .ref (3 + a.toNatClampNeg)] h _
      refine zwM_one (i := .iload 5) (e := zm_79) rfl rfl rfl rfl (fun _ => rfl) ?_
      show zwM 2 79 40 [some (.ref 1), some (.int a), some (.int i), some (.int b), some (.int j), some (.int n)] [.int n, .int j, .ref (3 + b.toNatClampNeg), .int i, .ref (3 + a.toNatClampNeg)] h _
      refine wk_copy (e := zm_79) (n0 := 40) (n1 := 40) rfl rfl rfl (wk_item (by omega) (by omega)) (wk_item (by omega) (by omega)) (by omega) rfl ?_
      show zwM 2 79 43 [some (.ref 1), some (.int a), some (.int i), some (.int b), some (.int j), some (.int n)] [] (va_up h.1 (3 + b.toNatClampNeg) (va_cpy (h.1 (3 + a.toNatClampNeg)) (h.1 (3 + b.toNatClampNeg)) i.toNatClampNeg j.toNatClampNeg n.toNatClampNeg), h.2) _
      refine zwM_ret (e := zm_79) (i := .return_) rfl rfl rfl ?_
      have e3 : b.toNatClampNeg = b.toInt.toNat := rfl
      have e4 : j.toNatClampNeg = j.toInt.toNat := rfl
      have e5 : n.toNatClampNeg = n.toInt.toNat := rfl
      obtain ⟨w, w1, w2, w3, w4⟩ := Wmv_in b.toNatClampNeg (by omega)
      exact ⟨rfl, ty_up ht (tItem _ (by omega)), W_up ⟨w, w1, w2, w3, by omega⟩⟩
theorem int_any {v : Value} (h : pOk (.inl (false, iMin, iMax, false)) v) : ∃ u : Int32, v = .int u := by
  obtain ⟨u, hu, -⟩ := h
  exact ⟨u, hu⟩
theorem any_int (u : Int32) : pOk (.inl (false, iMin, iMax, false)) (.int u) := ⟨u, rfl, (rOk_i.mp (rIn_i u)).1, (rOk_i.mp (rIn_i u)).2, fun q => by cases q⟩
theorem move_y : yOk 79 ([.inr 1, .inl (false, iMin, iMax, false), .inl (false, iMin, iMax, false), .inl (false, iMin, iMax, false), .inl (false, iMin, iMax, false), .inl (false, iMin, iMax, false)], [], [(none, [])], Wmv, 2) := by
  intro as h ht hp _
  match as, hp with
  | [v0, v1, v2, v3, v4, v5], hp =>
    obtain ⟨h0, h1, h2, h3, h4, h5, -⟩ := hp
    have h0 : v0 = .ref 1 := h0
    obtain ⟨u1, rfl⟩ := int_any h1
    obtain ⟨u2, rfl⟩ := int_any h2
    obtain ⟨u3, rfl⟩ := int_any h3
    obtain ⟨u4, rfl⟩ := int_any h4
    obtain ⟨u5, rfl⟩ := int_any h5
    subst h0
    refine zm_imp (f_79 h u1 u2 u3 u4 u5 ht) (fun rv h' hq => ?_)
    obtain ⟨q1, q2, q3⟩ := hq
    subst q1
    exact ⟨q2, q3, _, List.mem_cons_self, trivial, fun e he => by cases he⟩
  | [], hp => exact hp.elim
  | [_], hp => exact hp.2.elim
  | [_, _], hp => exact hp.2.2.elim
  | [_, _, _], hp => exact hp.2.2.2.elim
  | [_, _, _, _], hp => exact hp.2.2.2.2.elim
  | [_, _, _, _, _], hp => exact hp.2.2.2.2.2.elim
  | _ :: _ :: _ :: _ :: _ :: _ :: _ :: _, hp => exact hp.2.2.2.2.2.2.elim
set_option maxHeartbeats 1000000 in
theorem f_121 (h : zH) (v : Int32) (a : Int32) (b : Int32) : zm 0 121 [.int v, .int a, .int b] h (fun rv h' => rv = some (.int (zbo (a.toInt ≤ v.toInt ∧ v.toInt ≤ b.toInt))) ∧ h' = h) := by
  refine zm_ofM (x := zm_121) rfl ?_
  show zwM 0 121 0 [some (.int v), some (.int a), some (.int b)] [] h _
  refine zwM_one (i := .iload_n 0) (e := zm_121) rfl rfl rfl rfl (fun _ => rfl) ?_
  show zwM 0 121 1 [some (.int v), some (.int a), some (.int b)] [.int v] h _
  refine zwM_one (i := .iload_n 1) (e := zm_121) rfl rfl rfl rfl (fun _ => rfl) ?_
  show zwM 0 121 2 [some (.int v), some (.int a), some (.int b)] [.int a, .int v] h _
  refine wk_ic_lt (e := zm_121) (t := 14) rfl rfl rfl rfl rfl (fun c1 => ?_) (fun c1 => ?_)
  · show zwM 0 121 14 [some (.int v), some (.int a), some (.int b)] [] h _
    refine zwM_one (i := .iconst 0) (e := zm_121) rfl rfl rfl rfl (fun _ => rfl) ?_
    show zwM 0 121 15 [some (.int v), some (.int a), some (.int b)] [.int (Int32.ofInt 0)] h _
    refine zwM_ret (e := zm_121) (i := .ireturn) rfl rfl rfl ?_
    exact ⟨zboF (by omega), rfl⟩
  · show zwM 0 121 5 [some (.int v), some (.int a), some (.int b)] [] h _
    refine zwM_one (i := .iload_n 0) (e := zm_121) rfl rfl rfl rfl (fun _ => rfl) ?_
    show zwM 0 121 6 [some (.int v), some (.int a), some (.int b)] [.int v] h _
    refine zwM_one (i := .iload_n 2) (e := zm_121) rfl rfl rfl rfl (fun _ => rfl) ?_
    show zwM 0 121 7 [some (.int v), some (.int a), some (.int b)] [.int b, .int v] h _
    refine wk_ic_gt (e := zm_121) (t := 14) rfl rfl rfl rfl rfl (fun c2 => ?_) (fun c2 => ?_)
    · show zwM 0 121 14 [some (.int v), some (.int a), some (.int b)] [] h _
      refine zwM_one (i := .iconst 0) (e := zm_121) rfl rfl rfl rfl (fun _ => rfl) ?_
      show zwM 0 121 15 [some (.int v), some (.int a), some (.int b)] [.int (Int32.ofInt 0)] h _
      refine zwM_ret (e := zm_121) (i := .ireturn) rfl rfl rfl ?_
      exact ⟨zboF (by omega), rfl⟩
    · show zwM 0 121 10 [some (.int v), some (.int a), some (.int b)] [] h _
      refine zwM_one (i := .iconst 1) (e := zm_121) rfl rfl rfl rfl (fun _ => rfl) ?_
      show zwM 0 121 11 [some (.int v), some (.int a), some (.int b)] [.int (Int32.ofInt 1)] h _
      refine zwM_one (i := .goto 4) (e := zm_121) rfl rfl rfl rfl (fun _ => rfl) ?_
      show zwM 0 121 15 [some (.int v), some (.int a), some (.int b)] [.int (Int32.ofInt 1)] h _
      refine zwM_ret (e := zm_121) (i := .ireturn) rfl rfl rfl ?_
      exact ⟨zboT (by omega), rfl⟩
set_option maxHeartbeats 1000000 in
theorem f_128 (h : zH) (r : Int32) : zm 1 128 [.int r] h (fun rv h' => rv = some (.int (zbo (0 ≤ r.toInt ∧ r.toInt < 8))) ∧ h' = h) := by
  refine zm_ofM (x := zm_128) rfl ?_
  show zwM 1 128 0 [some (.int r)] [] h _
  refine zwM_one (i := .iload_n 0) (e := zm_128) rfl rfl rfl rfl (fun _ => rfl) ?_
  show zwM 1 128 1 [some (.int r)] [.int r] h _
  refine zwM_one (i := .iconst 0) (e := zm_128) rfl rfl rfl rfl (fun _ => rfl) ?_
  show zwM 1 128 2 [some (.int r)] [.int (Int32.ofInt 0), .int r] h _
  refine zwM_one (i := .bipush 7) (e := zm_128) rfl rfl rfl rfl (fun _ => rfl) ?_
  show zwM 1 128 4 [some (.int r)] [.int (Int8.ofInt 7).toInt32, .int (Int32.ofInt 0), .int r] h _
  refine zwM_callS (e := zm_128) (M' := 121) (e' := zm_121) rfl rfl rfl rfl rfl rfl ?_
  refine zm_imp (zm_le (show 0 ≤ 0 by decide) (f_121 h r (Int32.ofInt 0) (Int8.ofInt 7).toInt32)) (fun rv h' hr => ?_)
  rw [hr.1, hr.2]
  show zwM 1 128 7 [some (.int r)] [.int (zbo (0 ≤ r.toInt ∧ r.toInt ≤ 7))] h _
  refine zwM_ret (e := zm_128) (i := .ireturn) rfl rfl (wk_retB rfl) ?_
  exact ⟨wk_zb (by omega), rfl⟩
set_option maxHeartbeats 1000000 in
theorem f_125 (h : zH) (k : Int32) : zm 0 125 [.ref 58, .int k] h (fun rv h' => rv = some (.int ((-1000010 : Int32) - k)) ∧ h' = (zSet h 58 3 k)) := by
  refine zm_ofM (x := zm_125) rfl ?_
  show zwM 0 125 0 [some (.ref 58), some (.int k)] [] h _
  refine zwM_one (i := .aload_n 0) (e := zm_125) rfl rfl rfl rfl (fun _ => rfl) ?_
  show zwM 0 125 1 [some (.ref 58), some (.int k)] [.ref 58] h _
  refine zwM_one (i := .iload_n 1) (e := zm_125) rfl rfl rfl rfl (fun _ => rfl) ?_
  show zwM 0 125 2 [some (.ref 58), some (.int k)] [.int k, .ref 58] h _
  refine zwM_one (i := .putfield 56) (e := zm_125) rfl rfl rfl rfl (fun _ => rfl) ?_
  show zwM 0 125 5 [some (.ref 58), some (.int k)] [] (zSet h 58 3 k) _
  refine zwM_one (i := .ldc 60) (e := zm_125) rfl rfl rfl rfl (fun _ => rfl) ?_
  show zwM 0 125 7 [some (.ref 58), some (.int k)] [.int (-1000010 : Int32)] (zSet h 58 3 k) _
  refine zwM_one (i := .iload_n 1) (e := zm_125) rfl rfl rfl rfl (fun _ => rfl) ?_
  show zwM 0 125 8 [some (.ref 58), some (.int k)] [.int k, .int (-1000010 : Int32)] (zSet h 58 3 k) _
  refine zwM_one (i := .isub) (e := zm_125) rfl rfl rfl rfl (fun _ => rfl) ?_
  show zwM 0 125 9 [some (.ref 58), some (.int k)] [.int ((-1000010 : Int32) - k)] (zSet h 58 3 k) _
  refine zwM_ret (e := zm_125) (i := .ireturn) rfl rfl rfl ?_
  exact ⟨rfl, rfl⟩
set_option maxHeartbeats 1000000 in
theorem f_126 (h : zH) (k : Int32) : zm 0 126 [.ref 58, .int k] h (fun rv h' => rv = some (.int k) ∧ h' = (zSet h 58 3 (Int32.ofInt 0))) := by
  refine zm_ofM (x := zm_126) rfl ?_
  show zwM 0 126 0 [some (.ref 58), some (.int k)] [] h _
  refine zwM_one (i := .aload_n 0) (e := zm_126) rfl rfl rfl rfl (fun _ => rfl) ?_
  show zwM 0 126 1 [some (.ref 58), some (.int k)] [.ref 58] h _
  refine zwM_one (i := .iconst 0) (e := zm_126) rfl rfl rfl rfl (fun _ => rfl) ?_
  show zwM 0 126 2 [some (.ref 58), some (.int k)] [.int (Int32.ofInt 0), .ref 58] h _
  refine zwM_one (i := .putfield 56) (e := zm_126) rfl rfl rfl rfl (fun _ => rfl) ?_
  show zwM 0 126 5 [some (.ref 58), some (.int k)] [] (zSet h 58 3 (Int32.ofInt 0)) _
  refine zwM_one (i := .iload_n 1) (e := zm_126) rfl rfl rfl rfl (fun _ => rfl) ?_
  show zwM 0 126 6 [some (.ref 58), some (.int k)] [.int k] (zSet h 58 3 (Int32.ofInt 0)) _
  refine zwM_ret (e := zm_126) (i := .ireturn) rfl rfl rfl ?_
  exact ⟨rfl, rfl⟩
set_option maxHeartbeats 1000000 in
theorem f_129 (h : zH) (r : Int32) (r0 : 0 ≤ r.toInt) (r1 : r.toInt < 8) : zm 0 129 [.ref 58, .int r] h (fun rv h' => rv = some (.int (zbo ((h.1 59 r.toNatClampNeg).toInt < 0))) ∧ h' = h) := by
  refine zm_ofM (x := zm_129) rfl ?_
  show zwM 0 129 0 [some (.ref 58), some (.int r)] [] h _
  refine zwM_one (i := .aload_n 0) (e := zm_129) rfl rfl rfl rfl (fun _ => rfl) ?_
  show zwM 0 129 1 [some (.ref 58), some (.int r)] [.ref 58] h _
  refine zwM_one (i := .getfield 7) (e := zm_129) rfl rfl rfl rfl (fun _ => rfl) ?_
  show zwM 0 129 4 [some (.ref 58), some (.int r)] [.ref 59] h _
  refine zwM_one (i := .iload_n 1) (e := zm_129) rfl rfl rfl rfl (fun _ => rfl) ?_
  show zwM 0 129 5 [some (.ref 58), some (.int r)] [.int r, .ref 59] h _
  refine wk_ial (e := zm_129) (n := 8) (f := h.1 59) rfl rfl rfl rfl (by omega) (by omega) ?_
  show zwM 0 129 6 [some (.ref 58), some (.int r)] [.int (h.1 59 r.toNatClampNeg)] h _
  refine wk_if_ge (e := zm_129) (t := 13) rfl rfl rfl rfl (fun c1 => ?_) (fun c1 => ?_)
  · show zwM 0 129 13 [some (.ref 58), some (.int r)] [] h _
    refine zwM_one (i := .iconst 0) (e := zm_129) rfl rfl rfl rfl (fun _ => rfl) ?_
    show zwM 0 129 14 [some (.ref 58), some (.int r)] [.int (Int32.ofInt 0)] h _
    refine zwM_ret (e := zm_129) (i := .ireturn) rfl rfl rfl ?_
    exact ⟨zboF (by omega), rfl⟩
  · show zwM 0 129 9 [some (.ref 58), some (.int r)] [] h _
    refine zwM_one (i := .iconst 1) (e := zm_129) rfl rfl rfl rfl (fun _ => rfl) ?_
    show zwM 0 129 10 [some (.ref 58), some (.int r)] [.int (Int32.ofInt 1)] h _
    refine zwM_one (i := .goto 4) (e := zm_129) rfl rfl rfl rfl (fun _ => rfl) ?_
    show zwM 0 129 14 [some (.ref 58), some (.int r)] [.int (Int32.ofInt 1)] h _
    refine zwM_ret (e := zm_129) (i := .ireturn) rfl rfl rfl ?_
    exact ⟨zboT (by omega), rfl⟩
set_option maxHeartbeats 1000000 in
theorem f_132 (h : zH) (r : Int32) (i : Int32) (n : Int32) (ht : hTy h) (r0 : 0 ≤ r.toInt) (r1 : r.toInt < 8) : zm 0 132 [.ref 58, .int r, .int i, .int n] h (fun rv h' => rv = some (.int (zbo (0 ≤ i.toInt ∧ 0 ≤ n.toInt ∧ i.toInt ≤ (h.1 60 r.toNatClampNeg).toInt ∧ n.toInt ≤ (h.1 60 r.toNatClampNeg).toInt - i.toInt))) ∧ h' = h) := by
  have hsz := tSz0 h ht r.toNatClampNeg
  refine zm_ofM (x := zm_132) rfl ?_
  show zwM 0 132 0 [some (.ref 58), some (.int r), some (.int i), some (.int n)] [] h _
  refine zwM_one (i := .iload_n 2) (e := zm_132) rfl rfl rfl rfl (fun _ => rfl) ?_
  show zwM 0 132 1 [some (.ref 58), some (.int r), some (.int i), some (.int n)] [.int i] h _
  refine wk_if_lt (e := zm_132) (t := 34) rfl rfl rfl rfl (fun c1 => ?_) (fun c1 => ?_)
  · show zwM 0 132 34 [some (.ref 58), some (.int r), some (.int i), some (.int n)] [] h _
    refine zwM_one (i := .iconst 0) (e := zm_132) rfl rfl rfl rfl (fun _ => rfl) ?_
    show zwM 0 132 35 [some (.ref 58), some (.int r), some (.int i), some (.int n)] [.int (Int32.ofInt 0)] h _
    refine zwM_ret (e := zm_132) (i := .ireturn) rfl rfl rfl ?_
    exact ⟨zboF (by omega), rfl⟩
  · show zwM 0 132 4 [some (.ref 58), some (.int r), some (.int i), some (.int n)] [] h _
    refine zwM_one (i := .iload_n 3) (e := zm_132) rfl rfl rfl rfl (fun _ => rfl) ?_
    show zwM 0 132 5 [some (.ref 58), some (.int r), some (.int i), some (.int n)] [.int n] h _
    refine wk_if_lt (e := zm_132) (t := 34) rfl rfl rfl rfl (fun c2 => ?_) (fun c2 => ?_)
    · show zwM 0 132 34 [some (.ref 58), some (.int r), some (.int i), some (.int n)] [] h _
      refine zwM_one (i := .iconst 0) (e := zm_132) rfl rfl rfl rfl (fun _ => rfl) ?_
      show zwM 0 132 35 [some (.ref 58), some (.int r), some (.int i), some (.int n)] [.int (Int32.ofInt 0)] h _
      refine zwM_ret (e := zm_132) (i := .ireturn) rfl rfl rfl ?_
      exact ⟨zboF (by omega), rfl⟩
    · show zwM 0 132 8 [some (.ref 58), some (.int r), some (.int i), some (.int n)] [] h _
      refine zwM_one (i := .iload_n 2) (e := zm_132) rfl rfl rfl rfl (fun _ => rfl) ?_
      show zwM 0 132 9 [some (.ref 58), some (.int r), some (.int i), some (.int n)] [.int i] h _
      refine zwM_one (i := .aload_n 0) (e := zm_132) rfl rfl rfl rfl (fun _ => rfl) ?_
      show zwM 0 132 10 [some (.ref 58), some (.int r), some (.int i), some (.int n)] [.ref 58, .int i] h _
      refine zwM_one (i := .getfield 13) (e := zm_132) rfl rfl rfl rfl (fun _ => rfl) ?_
      show zwM 0 132 13 [some (.ref 58), some (.int r), some (.int i), some (.int n)] [.ref 60, .int i] h _
      refine zwM_one (i := .iload_n 1) (e := zm_132) rfl rfl rfl rfl (fun _ => rfl) ?_
      show zwM 0 132 14 [some (.ref 58), some (.int r), some (.int i), some (.int n)] [.int r, .ref 60, .int i] h _
      refine wk_ial (e := zm_132) (n := 8) (f := h.1 60) rfl rfl rfl rfl (by omega) (by omega) ?_
      show zwM 0 132 15 [some (.ref 58), some (.int r), some (.int i), some (.int n)] [.int (h.1 60 r.toNatClampNeg), .int i] h _
      refine wk_ic_gt (e := zm_132) (t := 34) rfl rfl rfl rfl rfl (fun c3 => ?_) (fun c3 => ?_)
      · show zwM 0 132 34 [some (.ref 58), some (.int r), some (.int i), some (.int n)] [] h _
        refine zwM_one (i := .iconst 0) (e := zm_132) rfl rfl rfl rfl (fun _ => rfl) ?_
        show zwM 0 132 35 [some (.ref 58), some (.int r), some (.int i), some (.int n)] [.int (Int32.ofInt 0)] h _
        refine zwM_ret (e := zm_132) (i := .ireturn) rfl rfl rfl ?_
        exact ⟨zboF (by omega), rfl⟩
      · show zwM 0 132 18 [some (.ref 58), some (.int r), some (.int i), some (.int n)] [] h _
        refine zwM_one (i := .iload_n 3) (e := zm_132) rfl rfl rfl rfl (fun _ => rfl) ?_
        show zwM 0 132 19 [some (.ref 58), some (.int r), some (.int i), some (.int n)] [.int n] h _
        refine zwM_one (i := .aload_n 0) (e := zm_132) rfl rfl rfl rfl (fun _ => rfl) ?_
        show zwM 0 132 20 [some (.ref 58), some (.int r), some (.int i), some (.int n)] [.ref 58, .int n] h _
        refine zwM_one (i := .getfield 13) (e := zm_132) rfl rfl rfl rfl (fun _ => rfl) ?_
        show zwM 0 132 23 [some (.ref 58), some (.int r), some (.int i), some (.int n)] [.ref 60, .int n] h _
        refine zwM_one (i := .iload_n 1) (e := zm_132) rfl rfl rfl rfl (fun _ => rfl) ?_
        show zwM 0 132 24 [some (.ref 58), some (.int r), some (.int i), some (.int n)] [.int r, .ref 60, .int n] h _
        refine wk_ial (e := zm_132) (n := 8) (f := h.1 60) rfl rfl rfl rfl (by omega) (by omega) ?_
        show zwM 0 132 25 [some (.ref 58), some (.int r), some (.int i), some (.int n)] [.int (h.1 60 r.toNatClampNeg), .int n] h _
        refine zwM_one (i := .iload_n 2) (e := zm_132) rfl rfl rfl rfl (fun _ => rfl) ?_
        show zwM 0 132 26 [some (.ref 58), some (.int r), some (.int i), some (.int n)] [.int i, .int (h.1 60 r.toNatClampNeg), .int n] h _
        have e4 : ((h.1 60 r.toNatClampNeg) - i).toInt = ((h.1 60 r.toNatClampNeg).toInt - i.toInt) := (wk_sub rfl rfl (by omega) (by omega))
        refine zwM_one (i := .isub) (e := zm_132) rfl rfl rfl rfl (fun _ => rfl) ?_
        show zwM 0 132 27 [some (.ref 58), some (.int r), some (.int i), some (.int n)] [.int ((h.1 60 r.toNatClampNeg) - i), .int n] h _
        refine wk_ic_gt (e := zm_132) (t := 34) rfl rfl rfl rfl e4 (fun c5 => ?_) (fun c5 => ?_)
        · show zwM 0 132 34 [some (.ref 58), some (.int r), some (.int i), some (.int n)] [] h _
          refine zwM_one (i := .iconst 0) (e := zm_132) rfl rfl rfl rfl (fun _ => rfl) ?_
          show zwM 0 132 35 [some (.ref 58), some (.int r), some (.int i), some (.int n)] [.int (Int32.ofInt 0)] h _
          refine zwM_ret (e := zm_132) (i := .ireturn) rfl rfl rfl ?_
          exact ⟨zboF (by omega), rfl⟩
        · show zwM 0 132 30 [some (.ref 58), some (.int r), some (.int i), some (.int n)] [] h _
          refine zwM_one (i := .iconst 1) (e := zm_132) rfl rfl rfl rfl (fun _ => rfl) ?_
          show zwM 0 132 31 [some (.ref 58), some (.int r), some (.int i), some (.int n)] [.int (Int32.ofInt 1)] h _
          refine zwM_one (i := .goto 4) (e := zm_132) rfl rfl rfl rfl (fun _ => rfl) ?_
          show zwM 0 132 35 [some (.ref 58), some (.int r), some (.int i), some (.int n)] [.int (Int32.ofInt 1)] h _
          refine zwM_ret (e := zm_132) (i := .ireturn) rfl rfl rfl ?_
          exact ⟨zboT (by omega), rfl⟩
set_option maxHeartbeats 1000000 in
theorem f_133_l (a1 a2 a3 a4 a5 x6 x7 : Int32) (g : zH) (n0 : 0 ≤ a5.toInt) (f0 : 0 ≤ x6.toInt) (f1 : x6.toInt + a5.toInt ≤ 320) (t0 : 0 ≤ x7.toInt) (t1 : x7.toInt + a5.toInt ≤ 320) : ∀ (k : Nat) (x8 : Int32) (o9 : Option Value) (h : zH), x8.toInt + (k : Int) = a5.toInt → 0 ≤ x8.toInt → hTy h → hW Wcp g h → zwM 2 133 109 [some (.ref 58), some (.int a1), some (.int a2), some (.int a3), some (.int a4), some (.int a5), some (.int x6), some (.int x7), some (.int x8), o9] [] h (fun rv h' => (∃ u : Int32, rv = some (.int u)) ∧ hTy h' ∧ hW Wcp g h') := by
  intro k
  induction k with
  | zero =>
    intro x8 o9 h hx h0 ht hw
    have hx : x8.toInt + 0 = a5.toInt := hx
    refine zwM_one (i := .iload 8) (e := zm_133) rfl rfl rfl rfl (fun _ => rfl) ?_
    show zwM 2 133 111 [some (.ref 58), some (.int a1), some (.int a2), some (.int a3), some (.int a4), some (.int a5), some (.int x6), some (.int x7), some (.int x8), o9] [.int x8] h _
    refine zwM_one (i := .iload 5) (e := zm_133) rfl rfl rfl rfl (fun _ => rfl) ?_
    show zwM 2 133 113 [some (.ref 58), some (.int a1), some (.int a2), some (.int a3), some (.int a4), some (.int a5), some (.int x6), some (.int x7), some (.int x8), o9] [.int a5, .int x8] h _
    refine wk_ic_ge (e := zm_133) (t := 163) rfl rfl rfl rfl rfl (fun c1 => ?_) (fun c1 => ?_)
    · show zwM 2 133 163 [some (.ref 58), some (.int a1), some (.int a2), some (.int a3), some (.int a4), some (.int a5), some (.int x6), some (.int x7), some (.int x8), o9] [] h _
      refine zwM_one (i := .aload_n 0) (e := zm_133) rfl rfl rfl rfl (fun _ => rfl) ?_
      show zwM 2 133 164 [some (.ref 58), some (.int a1), some (.int a2), some (.int a3), some (.int a4), some (.int a5), some (.int x6), some (.int x7), some (.int x8), o9] [.ref 58] h _
      refine zwM_one (i := .iload 5) (e := zm_133) rfl rfl rfl rfl (fun _ => rfl) ?_
      show zwM 2 133 166 [some (.ref 58), some (.int a1), some (.int a2), some (.int a3), some (.int a4), some (.int a5), some (.int x6), some (.int x7), some (.int x8), o9] [.int a5, .ref 58] h _
      refine wk_callV (e := zm_133) (M' := 126) (e' := zm_126) rfl rfl rfl rfl rfl ?_
      refine zm_imp (zm_le (show 0 ≤ 1 by decide) (f_126 h a5)) (fun rv h' hr => ?_)
      rw [hr.1, hr.2]
      show zwM 2 133 169 [some (.ref 58), some (.int a1), some (.int a2), some (.int a3), some (.int a4), some (.int a5), some (.int x6), some (.int x7), some (.int x8), o9] [.int a5] (zSet h 58 3 (Int32.ofInt 0)) _
      refine zwM_ret (e := zm_133) (i := .ireturn) rfl rfl rfl ?_
      exact ⟨⟨_, rfl⟩, ty_set ht rfl, W_set hw ⟨(58, 3, 3), by decide, rfl, Nat.le_refl _, Nat.le_refl _⟩⟩
    · show zwM 2 133 116 [some (.ref 58), some (.int a1), some (.int a2), some (.int a3), some (.int a4), some (.int a5), some (.int x6), some (.int x7), some (.int x8), o9] [] h _
      refine zwM_one (i := .iload 7) (e := zm_133) rfl rfl rfl rfl (fun _ => rfl) ?_
      show zwM 2 133 118 [some (.ref 58), some (.int a1), some (.int a2), some (.int a3), some (.int a4), some (.int a5), some (.int x6), some (.int x7), some (.int x8), o9] [.int x7] h _
      refine zwM_one (i := .iload 6) (e := zm_133) rfl rfl rfl rfl (fun _ => rfl) ?_
      show zwM 2 133 120 [some (.ref 58), some (.int a1), some (.int a2), some (.int a3), some (.int a4), some (.int a5), some (.int x6), some (.int x7), some (.int x8), o9] [.int x6, .int x7] h _
      refine wk_ic_le (e := zm_133) (t := 133) rfl rfl rfl rfl rfl (fun c2 => ?_) (fun c2 => ?_)
      · show zwM 2 133 133 [some (.ref 58), some (.int a1), some (.int a2), some (.int a3), some (.int a4), some (.int a5), some (.int x6), some (.int x7), some (.int x8), o9] [] h _
        refine zwM_one (i := .iload 8) (e := zm_133) rfl rfl rfl rfl (fun _ => rfl) ?_
        show zwM 2 133 135 [some (.ref 58), some (.int a1), some (.int a2), some (.int a3), some (.int a4), some (.int a5), some (.int x6), some (.int x7), some (.int x8), o9] [.int x8] h _
        refine zwM_one (i := .istore 9) (e := zm_133) rfl rfl rfl rfl (fun _ => rfl) ?_
        show zwM 2 133 137 [some (.ref 58), some (.int a1), some (.int a2), some (.int a3), some (.int a4), some (.int a5), some (.int x6), some (.int x7), some (.int x8), some (.int x8)] [] h _
        refine zwM_one (i := .aload_n 0) (e := zm_133) rfl rfl rfl rfl (fun _ => rfl) ?_
        show zwM 2 133 138 [some (.ref 58), some (.int a1), some (.int a2), some (.int a3), some (.int a4), some (.int a5), some (.int x6), some (.int x7), some (.int x8), some (.int x8)] [.ref 58] h _
        refine zwM_one (i := .getfield 16) (e := zm_133) rfl rfl rfl rfl (fun _ => rfl) ?_
        show zwM 2 133 141 [some (.ref 58), some (.int a1), some (.int a2), some (.int a3), some (.int a4), some (.int a5), some (.int x6), some (.int x7), some (.int x8), some (.int x8)] [.ref 61] h _
        refine zwM_one (i := .iload 7) (e := zm_133) rfl rfl rfl rfl (fun _ => rfl) ?_
        show zwM 2 133 143 [some (.ref 58), some (.int a1), some (.int a2), some (.int a3), some (.int a4), some (.int a5), some (.int x6), some (.int x7), some (.int x8), some (.int x8)] [.int x7, .ref 61] h _
        refine zwM_one (i := .iload 9) (e := zm_133) rfl rfl rfl rfl (fun _ => rfl) ?_
        show zwM 2 133 145 [some (.ref 58), some (.int a1), some (.int a2), some (.int a3), some (.int a4), some (.int a5), some (.int x6), some (.int x7), some (.int x8), some (.int x8)] [.int x8, .int x7, .ref 61] h _
        have e3 : (x7 + x8).toInt = (x7.toInt + x8.toInt) := (wk_add rfl rfl (by omega) (by omega))
        refine zwM_one (i := .iadd) (e := zm_133) rfl rfl rfl rfl (fun _ => rfl) ?_
        show zwM 2 133 146 [some (.ref 58), some (.int a1), some (.int a2), some (.int a3), some (.int a4), some (.int a5), some (.int x6), some (.int x7), some (.int x8), some (.int x8)] [.int (x7 + x8), .ref 61] h _
        refine zwM_one (i := .aload_n 0) (e := zm_133) rfl rfl rfl rfl (fun _ => rfl) ?_
        show zwM 2 133 147 [some (.ref 58), some (.int a1), some (.int a2), some (.int a3), some (.int a4), some (.int a5), some (.int x6), some (.int x7), some (.int x8), some (.int x8)] [.ref 58, .int (x7 + x8), .ref 61] h _
        refine zwM_one (i := .getfield 16) (e := zm_133) rfl rfl rfl rfl (fun _ => rfl) ?_
        show zwM 2 133 150 [some (.ref 58), some (.int a1), some (.int a2), some (.int a3), some (.int a4), some (.int a5), some (.int x6), some (.int x7), some (.int x8), some (.int x8)] [.ref 61, .int (x7 + x8), .ref 61] h _
        refine zwM_one (i := .iload 6) (e := zm_133) rfl rfl rfl rfl (fun _ => rfl) ?_
        show zwM 2 133 152 [some (.ref 58), some (.int a1), some (.int a2), some (.int a3), some (.int a4), some (.int a5), some (.int x6), some (.int x7), some (.int x8), some (.int x8)] [.int x6, .ref 61, .int (x7 + x8), .ref 61] h _
        refine zwM_one (i := .iload 9) (e := zm_133) rfl rfl rfl rfl (fun _ => rfl) ?_
        show zwM 2 133 154 [some (.ref 58), some (.int a1), some (.int a2), some (.int a3), some (.int a4), some (.int a5), some (.int x6), some (.int x7), some (.int x8), some (.int x8)] [.int x8, .int x6, .ref 61, .int (x7 + x8), .ref 61] h _
        have e4 : (x6 + x8).toInt = (x6.toInt + x8.toInt) := (wk_add rfl rfl (by omega) (by omega))
        refine zwM_one (i := .iadd) (e := zm_133) rfl rfl rfl rfl (fun _ => rfl) ?_
        show zwM 2 133 155 [some (.ref 58), some (.int a1), some (.int a2), some (.int a3), some (.int a4), some (.int a5), some (.int x6), some (.int x7), some (.int x8), some (.int x8)] [.int (x6 + x8), .ref 61, .int (x7 + x8), .ref 61] h _
        refine wk_ial (e := zm_133) (n := 320) (f := h.1 61) rfl rfl rfl e4 (by omega) (by omega) ?_
        show zwM 2 133 156 [some (.ref 58), some (.int a1), some (.int a2), some (.int a3), some (.int a4), some (.int a5), some (.int x6), some (.int x7), some (.int x8), some (.int x8)] [.int (h.1 61 (x6 + x8).toNatClampNeg), .int (x7 + x8), .ref 61] h _
        refine wk_ias (e := zm_133) (n := 320) rfl rfl rfl e3 (by omega) (by omega) ?_
        show zwM 2 133 157 [some (.ref 58), some (.int a1), some (.int a2), some (.int a3), some (.int a4), some (.int a5), some (.int x6), some (.int x7), some (.int x8), some (.int x8)] [] (zSet h 61 (x7 + x8).toNatClampNeg (h.1 61 (x6 + x8).toNatClampNeg)) _
        have e5 : (x8 + Int32.ofInt 1).toInt = (x8.toInt + 1) := wk_add rfl (show (Int32.ofInt 1).toInt = 1 by decide) (by omega) (by omega)
        refine zwM_one (i := .iinc 8 1) (e := zm_133) rfl rfl rfl rfl (fun _ => rfl) ?_
        show zwM 2 133 160 [some (.ref 58), some (.int a1), some (.int a2), some (.int a3), some (.int a4), some (.int a5), some (.int x6), some (.int x7), some (.int (x8 + Int32.ofInt 1)), some (.int x8)] [] (zSet h 61 (x7 + x8).toNatClampNeg (h.1 61 (x6 + x8).toNatClampNeg)) _
        refine zwM_one (i := .goto (-51)) (e := zm_133) rfl rfl rfl rfl (fun _ => rfl) ?_
        show zwM 2 133 109 [some (.ref 58), some (.int a1), some (.int a2), some (.int a3), some (.int a4), some (.int a5), some (.int x6), some (.int x7), some (.int (x8 + Int32.ofInt 1)), some (.int x8)] [] (zSet h 61 (x7 + x8).toNatClampNeg (h.1 61 (x6 + x8).toNatClampNeg)) _
        exfalso
        omega
      · show zwM 2 133 123 [some (.ref 58), some (.int a1), some (.int a2), some (.int a3), some (.int a4), some (.int a5), some (.int x6), some (.int x7), some (.int x8), o9] [] h _
        refine zwM_one (i := .iload 5) (e := zm_133) rfl rfl rfl rfl (fun _ => rfl) ?_
        show zwM 2 133 125 [some (.ref 58), some (.int a1), some (.int a2), some (.int a3), some (.int a4), some (.int a5), some (.int x6), some (.int x7), some (.int x8), o9] [.int a5] h _
        refine zwM_one (i := .iconst 1) (e := zm_133) rfl rfl rfl rfl (fun _ => rfl) ?_
        show zwM 2 133 126 [some (.ref 58), some (.int a1), some (.int a2), some (.int a3), some (.int a4), some (.int a5), some (.int x6), some (.int x7), some (.int x8), o9] [.int (Int32.ofInt 1), .int a5] h _
        have e6 : (a5 - (Int32.ofInt 1)).toInt = (a5.toInt - 1) := (wk_sub rfl (show (Int32.ofInt 1).toInt = 1 by decide) (by omega) (by omega))
        refine zwM_one (i := .isub) (e := zm_133) rfl rfl rfl rfl (fun _ => rfl) ?_
        show zwM 2 133 127 [some (.ref 58), some (.int a1), some (.int a2), some (.int a3), some (.int a4), some (.int a5), some (.int x6), some (.int x7), some (.int x8), o9] [.int (a5 - (Int32.ofInt 1))] h _
        refine zwM_one (i := .iload 8) (e := zm_133) rfl rfl rfl rfl (fun _ => rfl) ?_
        show zwM 2 133 129 [some (.ref 58), some (.int a1), some (.int a2), some (.int a3), some (.int a4), some (.int a5), some (.int x6), some (.int x7), some (.int x8), o9] [.int x8, .int (a5 - (Int32.ofInt 1))] h _
        have e7 : ((a5 - (Int32.ofInt 1)) - x8).toInt = ((a5.toInt - 1) - x8.toInt) := (wk_sub e6 rfl (by omega) (by omega))
        refine zwM_one (i := .isub) (e := zm_133) rfl rfl rfl rfl (fun _ => rfl) ?_
        show zwM 2 133 130 [some (.ref 58), some (.int a1), some (.int a2), some (.int a3), some (.int a4), some (.int a5), some (.int x6), some (.int x7), some (.int x8), o9] [.int ((a5 - (Int32.ofInt 1)) - x8)] h _
        refine zwM_one (i := .goto 5) (e := zm_133) rfl rfl rfl rfl (fun _ => rfl) ?_
        show zwM 2 133 135 [some (.ref 58), some (.int a1), some (.int a2), some (.int a3), some (.int a4), some (.int a5), some (.int x6), some (.int x7), some (.int x8), o9] [.int ((a5 - (Int32.ofInt 1)) - x8)] h _
        refine zwM_one (i := .istore 9) (e := zm_133) rfl rfl rfl rfl (fun _ => rfl) ?_
        show zwM 2 133 137 [some (.ref 58), some (.int a1), some (.int a2), some (.int a3), some (.int a4), some (.int a5), some (.int x6), some (.int x7), some (.int x8), some (.int ((a5 - (Int32.ofInt 1)) - x8))] [] h _
        refine zwM_one (i := .aload_n 0) (e := zm_133) rfl rfl rfl rfl (fun _ => rfl) ?_
        show zwM 2 133 138 [some (.ref 58), some (.int a1), some (.int a2), some (.int a3), some (.int a4), some (.int a5), some (.int x6), some (.int x7), some (.int x8), some (.int ((a5 - (Int32.ofInt 1)) - x8))] [.ref 58] h _
        refine zwM_one (i := .getfield 16) (e := zm_133) rfl rfl rfl rfl (fun _ => rfl) ?_
        show zwM 2 133 141 [some (.ref 58), some (.int a1), some (.int a2), some (.int a3), some (.int a4), some (.int a5), some (.int x6), some (.int x7), some (.int x8), some (.int ((a5 - (Int32.ofInt 1)) - x8))] [.ref 61] h _
        refine zwM_one (i := .iload 7) (e := zm_133) rfl rfl rfl rfl (fun _ => rfl) ?_
        show zwM 2 133 143 [some (.ref 58), some (.int a1), some (.int a2), some (.int a3), some (.int a4), some (.int a5), some (.int x6), some (.int x7), some (.int x8), some (.int ((a5 - (Int32.ofInt 1)) - x8))] [.int x7, .ref 61] h _
        refine zwM_one (i := .iload 9) (e := zm_133) rfl rfl rfl rfl (fun _ => rfl) ?_
        show zwM 2 133 145 [some (.ref 58), some (.int a1), some (.int a2), some (.int a3), some (.int a4), some (.int a5), some (.int x6), some (.int x7), some (.int x8), some (.int ((a5 - (Int32.ofInt 1)) - x8))] [.int ((a5 - (Int32.ofInt 1)) - x8), .int x7, .ref 61] h _
        have e8 : (x7 + ((a5 - (Int32.ofInt 1)) - x8)).toInt = (x7.toInt + ((a5.toInt - 1) - x8.toInt)) := (wk_add rfl e7 (by omega) (by omega))
        refine zwM_one (i := .iadd) (e := zm_133) rfl rfl rfl rfl (fun _ => rfl) ?_
        show zwM 2 133 146 [some (.ref 58), some (.int a1), some (.int a2), some (.int a3), some (.int a4), some (.int a5), some (.int x6), some (.int x7), some (.int x8), some (.int ((a5 - (Int32.ofInt 1)) - x8))] [.int (x7 + ((a5 - (Int32.ofInt 1)) - x8)), .ref 61] h _
        refine zwM_one (i := .aload_n 0) (e := zm_133) rfl rfl rfl rfl (fun _ => rfl) ?_
        show zwM 2 133 147 [some (.ref 58), some (.int a1), some (.int a2), some (.int a3), some (.int a4), some (.int a5), some (.int x6), some (.int x7), some (.int x8), some (.int ((a5 - (Int32.ofInt 1)) - x8))] [.ref 58, .int (x7 + ((a5 - (Int32.ofInt 1)) - x8)), .ref 61] h _
        refine zwM_one (i := .getfield 16) (e := zm_133) rfl rfl rfl rfl (fun _ => rfl) ?_
        show zwM 2 133 150 [some (.ref 58), some (.int a1), some (.int a2), some (.int a3), some (.int a4), some (.int a5), some (.int x6), some (.int x7), some (.int x8), some (.int ((a5 - (Int32.ofInt 1)) - x8))] [.ref 61, .int (x7 + ((a5 - (Int32.ofInt 1)) - x8)), .ref 61] h _
        refine zwM_one (i := .iload 6) (e := zm_133) rfl rfl rfl rfl (fun _ => rfl) ?_
        show zwM 2 133 152 [some (.ref 58), some (.int a1), some (.int a2), some (.int a3), some (.int a4), some (.int a5), some (.int x6), some (.int x7), some (.int x8), some (.int ((a5 - (Int32.ofInt 1)) - x8))] [.int x6, .ref 61, .int (x7 + ((a5 - (Int32.ofInt 1)) - x8)), .ref 61] h _
        refine zwM_one (i := .iload 9) (e := zm_133) rfl rfl rfl rfl (fun _ => rfl) ?_
        show zwM 2 133 154 [some (.ref 58), some (.int a1), some (.int a2), some (.int a3), some (.int a4), some (.int a5), some (.int x6), some (.int x7), some (.int x8), some (.int ((a5 - (Int32.ofInt 1)) - x8))] [.int ((a5 - (Int32.ofInt 1)) - x8), .int x6, .ref 61, .int (x7 + ((a5 - (Int32.ofInt 1)) - x8)), .ref 61] h _
        have e9 : (x6 + ((a5 - (Int32.ofInt 1)) - x8)).toInt = (x6.toInt + ((a5.toInt - 1) - x8.toInt)) := (wk_add rfl e7 (by omega) (by omega))
        refine zwM_one (i := .iadd) (e := zm_133) rfl rfl rfl rfl (fun _ => rfl) ?_
        show zwM 2 133 155 [some (.ref 58), some (.int a1), some (.int a2), some (.int a3), some (.int a4), some (.int a5), some (.int x6), some (.int x7), some (.int x8), some (.int ((a5 - (Int32.ofInt 1)) - x8))] [.int (x6 + ((a5 - (Int32.ofInt 1)) - x8)), .ref 61, .int (x7 + ((a5 - (Int32.ofInt 1)) - x8)), .ref 61] h _
        refine wk_ial (e := zm_133) (n := 320) (f := h.1 61) rfl rfl rfl e9 (by omega) (by omega) ?_
        show zwM 2 133 156 [some (.ref 58), some (.int a1), some (.int a2), some (.int a3), some (.int a4), some (.int a5), some (.int x6), some (.int x7), some (.int x8), some (.int ((a5 - (Int32.ofInt 1)) - x8))] [.int (h.1 61 (x6 + ((a5 - (Int32.ofInt 1)) - x8)).toNatClampNeg), .int (x7 + ((a5 - (Int32.ofInt 1)) - x8)), .ref 61] h _
        refine wk_ias (e := zm_133) (n := 320) rfl rfl rfl e8 (by omega) (by omega) ?_
        show zwM 2 133 157 [some (.ref 58), some (.int a1), some (.int a2), some (.int a3), some (.int a4), some (.int a5), some (.int x6), some (.int x7), some (.int x8), some (.int ((a5 - (Int32.ofInt 1)) - x8))] [] (zSet h 61 (x7 + ((a5 - (Int32.ofInt 1)) - x8)).toNatClampNeg (h.1 61 (x6 + ((a5 - (Int32.ofInt 1)) - x8)).toNatClampNeg)) _
        have e10 : (x8 + Int32.ofInt 1).toInt = (x8.toInt + 1) := wk_add rfl (show (Int32.ofInt 1).toInt = 1 by decide) (by omega) (by omega)
        refine zwM_one (i := .iinc 8 1) (e := zm_133) rfl rfl rfl rfl (fun _ => rfl) ?_
        show zwM 2 133 160 [some (.ref 58), some (.int a1), some (.int a2), some (.int a3), some (.int a4), some (.int a5), some (.int x6), some (.int x7), some (.int (x8 + Int32.ofInt 1)), some (.int ((a5 - (Int32.ofInt 1)) - x8))] [] (zSet h 61 (x7 + ((a5 - (Int32.ofInt 1)) - x8)).toNatClampNeg (h.1 61 (x6 + ((a5 - (Int32.ofInt 1)) - x8)).toNatClampNeg)) _
        refine zwM_one (i := .goto (-51)) (e := zm_133) rfl rfl rfl rfl (fun _ => rfl) ?_
        show zwM 2 133 109 [some (.ref 58), some (.int a1), some (.int a2), some (.int a3), some (.int a4), some (.int a5), some (.int x6), some (.int x7), some (.int (x8 + Int32.ofInt 1)), some (.int ((a5 - (Int32.ofInt 1)) - x8))] [] (zSet h 61 (x7 + ((a5 - (Int32.ofInt 1)) - x8)).toNatClampNeg (h.1 61 (x6 + ((a5 - (Int32.ofInt 1)) - x8)).toNatClampNeg)) _
        exfalso
        omega
  | succ k ih =>
    intro x8 o9 h hx h0 ht hw
    have hx : x8.toInt + ((k : Int) + 1) = a5.toInt := hx
    refine zwM_one (i := .iload 8) (e := zm_133) rfl rfl rfl rfl (fun _ => rfl) ?_
    show zwM 2 133 111 [some (.ref 58), some (.int a1), some (.int a2), some (.int a3), some (.int a4), some (.int a5), some (.int x6), some (.int x7), some (.int x8), o9] [.int x8] h _
    refine zwM_one (i := .iload 5) (e := zm_133) rfl rfl rfl rfl (fun _ => rfl) ?_
    show zwM 2 133 113 [some (.ref 58), some (.int a1), some (.int a2), some (.int a3), some (.int a4), some (.int a5), some (.int x6), some (.int x7), some (.int x8), o9] [.int a5, .int x8] h _
    refine wk_ic_ge (e := zm_133) (t := 163) rfl rfl rfl rfl rfl (fun c1 => ?_) (fun c1 => ?_)
    · show zwM 2 133 163 [some (.ref 58), some (.int a1), some (.int a2), some (.int a3), some (.int a4), some (.int a5), some (.int x6), some (.int x7), some (.int x8), o9] [] h _
      refine zwM_one (i := .aload_n 0) (e := zm_133) rfl rfl rfl rfl (fun _ => rfl) ?_
      show zwM 2 133 164 [some (.ref 58), some (.int a1), some (.int a2), some (.int a3), some (.int a4), some (.int a5), some (.int x6), some (.int x7), some (.int x8), o9] [.ref 58] h _
      refine zwM_one (i := .iload 5) (e := zm_133) rfl rfl rfl rfl (fun _ => rfl) ?_
      show zwM 2 133 166 [some (.ref 58), some (.int a1), some (.int a2), some (.int a3), some (.int a4), some (.int a5), some (.int x6), some (.int x7), some (.int x8), o9] [.int a5, .ref 58] h _
      refine wk_callV (e := zm_133) (M' := 126) (e' := zm_126) rfl rfl rfl rfl rfl ?_
      refine zm_imp (zm_le (show 0 ≤ 1 by decide) (f_126 h a5)) (fun rv h' hr => ?_)
      rw [hr.1, hr.2]
      show zwM 2 133 169 [some (.ref 58), some (.int a1), some (.int a2), some (.int a3), some (.int a4), some (.int a5), some (.int x6), some (.int x7), some (.int x8), o9] [.int a5] (zSet h 58 3 (Int32.ofInt 0)) _
      refine zwM_ret (e := zm_133) (i := .ireturn) rfl rfl rfl ?_
      exact ⟨⟨_, rfl⟩, ty_set ht rfl, W_set hw ⟨(58, 3, 3), by decide, rfl, Nat.le_refl _, Nat.le_refl _⟩⟩
    · show zwM 2 133 116 [some (.ref 58), some (.int a1), some (.int a2), some (.int a3), some (.int a4), some (.int a5), some (.int x6), some (.int x7), some (.int x8), o9] [] h _
      refine zwM_one (i := .iload 7) (e := zm_133) rfl rfl rfl rfl (fun _ => rfl) ?_
      show zwM 2 133 118 [some (.ref 58), some (.int a1), some (.int a2), some (.int a3), some (.int a4), some (.int a5), some (.int x6), some (.int x7), some (.int x8), o9] [.int x7] h _
      refine zwM_one (i := .iload 6) (e := zm_133) rfl rfl rfl rfl (fun _ => rfl) ?_
      show zwM 2 133 120 [some (.ref 58), some (.int a1), some (.int a2), some (.int a3), some (.int a4), some (.int a5), some (.int x6), some (.int x7), some (.int x8), o9] [.int x6, .int x7] h _
      refine wk_ic_le (e := zm_133) (t := 133) rfl rfl rfl rfl rfl (fun c2 => ?_) (fun c2 => ?_)
      · show zwM 2 133 133 [some (.ref 58), some (.int a1), some (.int a2), some (.int a3), some (.int a4), some (.int a5), some (.int x6), some (.int x7), some (.int x8), o9] [] h _
        refine zwM_one (i := .iload 8) (e := zm_133) rfl rfl rfl rfl (fun _ => rfl) ?_
        show zwM 2 133 135 [some (.ref 58), some (.int a1), some (.int a2), some (.int a3), some (.int a4), some (.int a5), some (.int x6), some (.int x7), some (.int x8), o9] [.int x8] h _
        refine zwM_one (i := .istore 9) (e := zm_133) rfl rfl rfl rfl (fun _ => rfl) ?_
        show zwM 2 133 137 [some (.ref 58), some (.int a1), some (.int a2), some (.int a3), some (.int a4), some (.int a5), some (.int x6), some (.int x7), some (.int x8), some (.int x8)] [] h _
        refine zwM_one (i := .aload_n 0) (e := zm_133) rfl rfl rfl rfl (fun _ => rfl) ?_
        show zwM 2 133 138 [some (.ref 58), some (.int a1), some (.int a2), some (.int a3), some (.int a4), some (.int a5), some (.int x6), some (.int x7), some (.int x8), some (.int x8)] [.ref 58] h _
        refine zwM_one (i := .getfield 16) (e := zm_133) rfl rfl rfl rfl (fun _ => rfl) ?_
        show zwM 2 133 141 [some (.ref 58), some (.int a1), some (.int a2), some (.int a3), some (.int a4), some (.int a5), some (.int x6), some (.int x7), some (.int x8), some (.int x8)] [.ref 61] h _
        refine zwM_one (i := .iload 7) (e := zm_133) rfl rfl rfl rfl (fun _ => rfl) ?_
        show zwM 2 133 143 [some (.ref 58), some (.int a1), some (.int a2), some (.int a3), some (.int a4), some (.int a5), some (.int x6), some (.int x7), some (.int x8), some (.int x8)] [.int x7, .ref 61] h _
        refine zwM_one (i := .iload 9) (e := zm_133) rfl rfl rfl rfl (fun _ => rfl) ?_
        show zwM 2 133 145 [some (.ref 58), some (.int a1), some (.int a2), some (.int a3), some (.int a4), some (.int a5), some (.int x6), some (.int x7), some (.int x8), some (.int x8)] [.int x8, .int x7, .ref 61] h _
        have e3 : (x7 + x8).toInt = (x7.toInt + x8.toInt) := (wk_add rfl rfl (by omega) (by omega))
        refine zwM_one (i := .iadd) (e := zm_133) rfl rfl rfl rfl (fun _ => rfl) ?_
        show zwM 2 133 146 [some (.ref 58), some (.int a1), some (.int a2), some (.int a3), some (.int a4), some (.int a5), some (.int x6), some (.int x7), some (.int x8), some (.int x8)] [.int (x7 + x8), .ref 61] h _
        refine zwM_one (i := .aload_n 0) (e := zm_133) rfl rfl rfl rfl (fun _ => rfl) ?_
        show zwM 2 133 147 [some (.ref 58), some (.int a1), some (.int a2), some (.int a3), some (.int a4), some (.int a5), some (.int x6), some (.int x7), some (.int x8), some (.int x8)] [.ref 58, .int (x7 + x8), .ref 61] h _
        refine zwM_one (i := .getfield 16) (e := zm_133) rfl rfl rfl rfl (fun _ => rfl) ?_
        show zwM 2 133 150 [some (.ref 58), some (.int a1), some (.int a2), some (.int a3), some (.int a4), some (.int a5), some (.int x6), some (.int x7), some (.int x8), some (.int x8)] [.ref 61, .int (x7 + x8), .ref 61] h _
        refine zwM_one (i := .iload 6) (e := zm_133) rfl rfl rfl rfl (fun _ => rfl) ?_
        show zwM 2 133 152 [some (.ref 58), some (.int a1), some (.int a2), some (.int a3), some (.int a4), some (.int a5), some (.int x6), some (.int x7), some (.int x8), some (.int x8)] [.int x6, .ref 61, .int (x7 + x8), .ref 61] h _
        refine zwM_one (i := .iload 9) (e := zm_133) rfl rfl rfl rfl (fun _ => rfl) ?_
        show zwM 2 133 154 [some (.ref 58), some (.int a1), some (.int a2), some (.int a3), some (.int a4), some (.int a5), some (.int x6), some (.int x7), some (.int x8), some (.int x8)] [.int x8, .int x6, .ref 61, .int (x7 + x8), .ref 61] h _
        have e4 : (x6 + x8).toInt = (x6.toInt + x8.toInt) := (wk_add rfl rfl (by omega) (by omega))
        refine zwM_one (i := .iadd) (e := zm_133) rfl rfl rfl rfl (fun _ => rfl) ?_
        show zwM 2 133 155 [some (.ref 58), some (.int a1), some (.int a2), some (.int a3), some (.int a4), some (.int a5), some (.int x6), some (.int x7), some (.int x8), some (.int x8)] [.int (x6 + x8), .ref 61, .int (x7 + x8), .ref 61] h _
        refine wk_ial (e := zm_133) (n := 320) (f := h.1 61) rfl rfl rfl e4 (by omega) (by omega) ?_
        show zwM 2 133 156 [some (.ref 58), some (.int a1), some (.int a2), some (.int a3), some (.int a4), some (.int a5), some (.int x6), some (.int x7), some (.int x8), some (.int x8)] [.int (h.1 61 (x6 + x8).toNatClampNeg), .int (x7 + x8), .ref 61] h _
        refine wk_ias (e := zm_133) (n := 320) rfl rfl rfl e3 (by omega) (by omega) ?_
        show zwM 2 133 157 [some (.ref 58), some (.int a1), some (.int a2), some (.int a3), some (.int a4), some (.int a5), some (.int x6), some (.int x7), some (.int x8), some (.int x8)] [] (zSet h 61 (x7 + x8).toNatClampNeg (h.1 61 (x6 + x8).toNatClampNeg)) _
        have e5 : (x8 + Int32.ofInt 1).toInt = (x8.toInt + 1) := wk_add rfl (show (Int32.ofInt 1).toInt = 1 by decide) (by omega) (by omega)
        refine zwM_one (i := .iinc 8 1) (e := zm_133) rfl rfl rfl rfl (fun _ => rfl) ?_
        show zwM 2 133 160 [some (.ref 58), some (.int a1), some (.int a2), some (.int a3), some (.int a4), some (.int a5), some (.int x6), some (.int x7), some (.int (x8 + Int32.ofInt 1)), some (.int x8)] [] (zSet h 61 (x7 + x8).toNatClampNeg (h.1 61 (x6 + x8).toNatClampNeg)) _
        refine zwM_one (i := .goto (-51)) (e := zm_133) rfl rfl rfl rfl (fun _ => rfl) ?_
        show zwM 2 133 109 [some (.ref 58), some (.int a1), some (.int a2), some (.int a3), some (.int a4), some (.int a5), some (.int x6), some (.int x7), some (.int (x8 + Int32.ofInt 1)), some (.int x8)] [] (zSet h 61 (x7 + x8).toNatClampNeg (h.1 61 (x6 + x8).toNatClampNeg)) _
        have en : (x7 + x8).toNatClampNeg = (x7 + x8).toInt.toNat := rfl
        exact ih _ _ _ (by omega) (by omega) (ty_set ht rfl) (W_set hw ⟨(61, 0, 320), by decide, rfl, Nat.zero_le _, by show _ ≤ 320; omega⟩)
      · show zwM 2 133 123 [some (.ref 58), some (.int a1), some (.int a2), some (.int a3), some (.int a4), some (.int a5), some (.int x6), some (.int x7), some (.int x8), o9] [] h _
        refine zwM_one (i := .iload 5) (e := zm_133) rfl rfl rfl rfl (fun _ => rfl) ?_
        show zwM 2 133 125 [some (.ref 58), some (.int a1), some (.int a2), some (.int a3), some (.int a4), some (.int a5), some (.int x6), some (.int x7), some (.int x8), o9] [.int a5] h _
        refine zwM_one (i := .iconst 1) (e := zm_133) rfl rfl rfl rfl (fun _ => rfl) ?_
        show zwM 2 133 126 [some (.ref 58), some (.int a1), some (.int a2), some (.int a3), some (.int a4), some (.int a5), some (.int x6), some (.int x7), some (.int x8), o9] [.int (Int32.ofInt 1), .int a5] h _
        have e6 : (a5 - (Int32.ofInt 1)).toInt = (a5.toInt - 1) := (wk_sub rfl (show (Int32.ofInt 1).toInt = 1 by decide) (by omega) (by omega))
        refine zwM_one (i := .isub) (e := zm_133) rfl rfl rfl rfl (fun _ => rfl) ?_
        show zwM 2 133 127 [some (.ref 58), some (.int a1), some (.int a2), some (.int a3), some (.int a4), some (.int a5), some (.int x6), some (.int x7), some (.int x8), o9] [.int (a5 - (Int32.ofInt 1))] h _
        refine zwM_one (i := .iload 8) (e := zm_133) rfl rfl rfl rfl (fun _ => rfl) ?_
        show zwM 2 133 129 [some (.ref 58), some (.int a1), some (.int a2), some (.int a3), some (.int a4), some (.int a5), some (.int x6), some (.int x7), some (.int x8), o9] [.int x8, .int (a5 - (Int32.ofInt 1))] h _
        have e7 : ((a5 - (Int32.ofInt 1)) - x8).toInt = ((a5.toInt - 1) - x8.toInt) := (wk_sub e6 rfl (by omega) (by omega))
        refine zwM_one (i := .isub) (e := zm_133) rfl rfl rfl rfl (fun _ => rfl) ?_
        show zwM 2 133 130 [some (.ref 58), some (.int a1), some (.int a2), some (.int a3), some (.int a4), some (.int a5), some (.int x6), some (.int x7), some (.int x8), o9] [.int ((a5 - (Int32.ofInt 1)) - x8)] h _
        refine zwM_one (i := .goto 5) (e := zm_133) rfl rfl rfl rfl (fun _ => rfl) ?_
        show zwM 2 133 135 [some (.ref 58), some (.int a1), some (.int a2), some (.int a3), some (.int a4), some (.int a5), some (.int x6), some (.int x7), some (.int x8), o9] [.int ((a5 - (Int32.ofInt 1)) - x8)] h _
        refine zwM_one (i := .istore 9) (e := zm_133) rfl rfl rfl rfl (fun _ => rfl) ?_
        show zwM 2 133 137 [some (.ref 58), some (.int a1), some (.int a2), some (.int a3), some (.int a4), some (.int a5), some (.int x6), some (.int x7), some (.int x8), some (.int ((a5 - (Int32.ofInt 1)) - x8))] [] h _
        refine zwM_one (i := .aload_n 0) (e := zm_133) rfl rfl rfl rfl (fun _ => rfl) ?_
        show zwM 2 133 138 [some (.ref 58), some (.int a1), some (.int a2), some (.int a3), some (.int a4), some (.int a5), some (.int x6), some (.int x7), some (.int x8), some (.int ((a5 - (Int32.ofInt 1)) - x8))] [.ref 58] h _
        refine zwM_one (i := .getfield 16) (e := zm_133) rfl rfl rfl rfl (fun _ => rfl) ?_
        show zwM 2 133 141 [some (.ref 58), some (.int a1), some (.int a2), some (.int a3), some (.int a4), some (.int a5), some (.int x6), some (.int x7), some (.int x8), some (.int ((a5 - (Int32.ofInt 1)) - x8))] [.ref 61] h _
        refine zwM_one (i := .iload 7) (e := zm_133) rfl rfl rfl rfl (fun _ => rfl) ?_
        show zwM 2 133 143 [some (.ref 58), some (.int a1), some (.int a2), some (.int a3), some (.int a4), some (.int a5), some (.int x6), some (.int x7), some (.int x8), some (.int ((a5 - (Int32.ofInt 1)) - x8))] [.int x7, .ref 61] h _
        refine zwM_one (i := .iload 9) (e := zm_133) rfl rfl rfl rfl (fun _ => rfl) ?_
        show zwM 2 133 145 [some (.ref 58), some (.int a1), some (.int a2), some (.int a3), some (.int a4), some (.int a5), some (.int x6), some (.int x7), some (.int x8), some (.int ((a5 - (Int32.ofInt 1)) - x8))] [.int ((a5 - (Int32.ofInt 1)) - x8), .int x7, .ref 61] h _
        have e8 : (x7 + ((a5 - (Int32.ofInt 1)) - x8)).toInt = (x7.toInt + ((a5.toInt - 1) - x8.toInt)) := (wk_add rfl e7 (by omega) (by omega))
        refine zwM_one (i := .iadd) (e := zm_133) rfl rfl rfl rfl (fun _ => rfl) ?_
        show zwM 2 133 146 [some (.ref 58), some (.int a1), some (.int a2), some (.int a3), some (.int a4), some (.int a5), some (.int x6), some (.int x7), some (.int x8), some (.int ((a5 - (Int32.ofInt 1)) - x8))] [.int (x7 + ((a5 - (Int32.ofInt 1)) - x8)), .ref 61] h _
        refine zwM_one (i := .aload_n 0) (e := zm_133) rfl rfl rfl rfl (fun _ => rfl) ?_
        show zwM 2 133 147 [some (.ref 58), some (.int a1), some (.int a2), some (.int a3), some (.int a4), some (.int a5), some (.int x6), some (.int x7), some (.int x8), some (.int ((a5 - (Int32.ofInt 1)) - x8))] [.ref 58, .int (x7 + ((a5 - (Int32.ofInt 1)) - x8)), .ref 61] h _
        refine zwM_one (i := .getfield 16) (e := zm_133) rfl rfl rfl rfl (fun _ => rfl) ?_
        show zwM 2 133 150 [some (.ref 58), some (.int a1), some (.int a2), some (.int a3), some (.int a4), some (.int a5), some (.int x6), some (.int x7), some (.int x8), some (.int ((a5 - (Int32.ofInt 1)) - x8))] [.ref 61, .int (x7 + ((a5 - (Int32.ofInt 1)) - x8)), .ref 61] h _
        refine zwM_one (i := .iload 6) (e := zm_133) rfl rfl rfl rfl (fun _ => rfl) ?_
        show zwM 2 133 152 [some (.ref 58), some (.int a1), some (.int a2), some (.int a3), some (.int a4), some (.int a5), some (.int x6), some (.int x7), some (.int x8), some (.int ((a5 - (Int32.ofInt 1)) - x8))] [.int x6, .ref 61, .int (x7 + ((a5 - (Int32.ofInt 1)) - x8)), .ref 61] h _
        refine zwM_one (i := .iload 9) (e := zm_133) rfl rfl rfl rfl (fun _ => rfl) ?_
        show zwM 2 133 154 [some (.ref 58), some (.int a1), some (.int a2), some (.int a3), some (.int a4), some (.int a5), some (.int x6), some (.int x7), some (.int x8), some (.int ((a5 - (Int32.ofInt 1)) - x8))] [.int ((a5 - (Int32.ofInt 1)) - x8), .int x6, .ref 61, .int (x7 + ((a5 - (Int32.ofInt 1)) - x8)), .ref 61] h _
        have e9 : (x6 + ((a5 - (Int32.ofInt 1)) - x8)).toInt = (x6.toInt + ((a5.toInt - 1) - x8.toInt)) := (wk_add rfl e7 (by omega) (by omega))
        refine zwM_one (i := .iadd) (e := zm_133) rfl rfl rfl rfl (fun _ => rfl) ?_
        show zwM 2 133 155 [some (.ref 58), some (.int a1), some (.int a2), some (.int a3), some (.int a4), some (.int a5), some (.int x6), some (.int x7), some (.int x8), some (.int ((a5 - (Int32.ofInt 1)) - x8))] [.int (x6 + ((a5 - (Int32.ofInt 1)) - x8)), .ref 61, .int (x7 + ((a5 - (Int32.ofInt 1)) - x8)), .ref 61] h _
        refine wk_ial (e := zm_133) (n := 320) (f := h.1 61) rfl rfl rfl e9 (by omega) (by omega) ?_
        show zwM 2 133 156 [some (.ref 58), some (.int a1), some (.int a2), some (.int a3), some (.int a4), some (.int a5), some (.int x6), some (.int x7), some (.int x8), some (.int ((a5 - (Int32.ofInt 1)) - x8))] [.int (h.1 61 (x6 + ((a5 - (Int32.ofInt 1)) - x8)).toNatClampNeg), .int (x7 + ((a5 - (Int32.ofInt 1)) - x8)), .ref 61] h _
        refine wk_ias (e := zm_133) (n := 320) rfl rfl rfl e8 (by omega) (by omega) ?_
        show zwM 2 133 157 [some (.ref 58), some (.int a1), some (.int a2), some (.int a3), some (.int a4), some (.int a5), some (.int x6), some (.int x7), some (.int x8), some (.int ((a5 - (Int32.ofInt 1)) - x8))] [] (zSet h 61 (x7 + ((a5 - (Int32.ofInt 1)) - x8)).toNatClampNeg (h.1 61 (x6 + ((a5 - (Int32.ofInt 1)) - x8)).toNatClampNeg)) _
        have e10 : (x8 + Int32.ofInt 1).toInt = (x8.toInt + 1) := wk_add rfl (show (Int32.ofInt 1).toInt = 1 by decide) (by omega) (by omega)
        refine zwM_one (i := .iinc 8 1) (e := zm_133) rfl rfl rfl rfl (fun _ => rfl) ?_
        show zwM 2 133 160 [some (.ref 58), some (.int a1), some (.int a2), some (.int a3), some (.int a4), some (.int a5), some (.int x6), some (.int x7), some (.int (x8 + Int32.ofInt 1)), some (.int ((a5 - (Int32.ofInt 1)) - x8))] [] (zSet h 61 (x7 + ((a5 - (Int32.ofInt 1)) - x8)).toNatClampNeg (h.1 61 (x6 + ((a5 - (Int32.ofInt 1)) - x8)).toNatClampNeg)) _
        refine zwM_one (i := .goto (-51)) (e := zm_133) rfl rfl rfl rfl (fun _ => rfl) ?_
        show zwM 2 133 109 [some (.ref 58), some (.int a1), some (.int a2), some (.int a3), some (.int a4), some (.int a5), some (.int x6), some (.int x7), some (.int (x8 + Int32.ofInt 1)), some (.int ((a5 - (Int32.ofInt 1)) - x8))] [] (zSet h 61 (x7 + ((a5 - (Int32.ofInt 1)) - x8)).toNatClampNeg (h.1 61 (x6 + ((a5 - (Int32.ofInt 1)) - x8)).toNatClampNeg)) _
        have en : (x7 + ((a5 - (Int32.ofInt 1)) - x8)).toNatClampNeg = (x7 + ((a5 - (Int32.ofInt 1)) - x8)).toInt.toNat := rfl
        exact ih _ _ _ (by omega) (by omega) (ty_set ht rfl) (W_set hw ⟨(61, 0, 320), by decide, rfl, Nat.zero_le _, by show _ ≤ 320; omega⟩)
set_option maxHeartbeats 1000000 in
theorem f_133 (h : zH) (a1 : Int32) (a2 : Int32) (a3 : Int32) (a4 : Int32) (a5 : Int32) (ht : hTy h) : zm 2 133 [.ref 58, .int a1, .int a2, .int a3, .int a4, .int a5] h (fun rv h' => (∃ u : Int32, rv = some (.int u)) ∧ hTy h' ∧ hW Wcp h h') := by
  have hs1 := tSz0 h ht a1.toNatClampNeg
  have hs3 := tSz0 h ht a3.toNatClampNeg
  refine zm_ofM (x := zm_133) rfl ?_
  show zwM 2 133 0 [some (.ref 58), some (.int a1), some (.int a2), some (.int a3), some (.int a4), some (.int a5), none, none, none, none] [] h _
  refine zwM_one (i := .iload_n 1) (e := zm_133) rfl rfl rfl rfl (fun _ => rfl) ?_
  show zwM 2 133 1 [some (.ref 58), some (.int a1), some (.int a2), some (.int a3), some (.int a4), some (.int a5), none, none, none, none] [.int a1] h _
  refine zwM_callS (e := zm_133) (M' := 128) (e' := zm_128) rfl rfl rfl rfl rfl rfl ?_
  refine zm_imp (zm_le (show 1 ≤ 1 by decide) (f_128 h a1)) (fun rv h' hr => ?_)
  rw [hr.1, hr.2]
  show zwM 2 133 4 [some (.ref 58), some (.int a1), some (.int a2), some (.int a3), some (.int a4), some (.int a5), none, none, none, none] [.int (zbo (0 ≤ a1.toInt ∧ a1.toInt < 8))] h _
  refine wk_bEq (e := zm_133) (t := 14) rfl rfl rfl (fun c1 => ?_) (fun c1 => ?_)
  · show zwM 2 133 14 [some (.ref 58), some (.int a1), some (.int a2), some (.int a3), some (.int a4), some (.int a5), none, none, none, none] [] h _
    refine zwM_one (i := .ldc 69) (e := zm_133) rfl rfl rfl rfl (fun _ => rfl) ?_
    show zwM 2 133 16 [some (.ref 58), some (.int a1), some (.int a2), some (.int a3), some (.int a4), some (.int a5), none, none, none, none] [.int (-1000001 : Int32)] h _
    refine zwM_ret (e := zm_133) (i := .ireturn) rfl rfl rfl ?_
    exact ⟨⟨_, rfl⟩, ht, hW.rf⟩
  · show zwM 2 133 7 [some (.ref 58), some (.int a1), some (.int a2), some (.int a3), some (.int a4), some (.int a5), none, none, none, none] [] h _
    refine zwM_one (i := .iload_n 3) (e := zm_133) rfl rfl rfl rfl (fun _ => rfl) ?_
    show zwM 2 133 8 [some (.ref 58), some (.int a1), some (.int a2), some (.int a3), some (.int a4), some (.int a5), none, none, none, none] [.int a3] h _
    refine zwM_callS (e := zm_133) (M' := 128) (e' := zm_128) rfl rfl rfl rfl rfl rfl ?_
    refine zm_imp (zm_le (show 1 ≤ 1 by decide) (f_128 h a3)) (fun rv h' hr => ?_)
    rw [hr.1, hr.2]
    show zwM 2 133 11 [some (.ref 58), some (.int a1), some (.int a2), some (.int a3), some (.int a4), some (.int a5), none, none, none, none] [.int (zbo (0 ≤ a3.toInt ∧ a3.toInt < 8))] h _
    refine wk_bNe (e := zm_133) (t := 17) rfl rfl rfl (fun c2 => ?_) (fun c2 => ?_)
    · show zwM 2 133 17 [some (.ref 58), some (.int a1), some (.int a2), some (.int a3), some (.int a4), some (.int a5), none, none, none, none] [] h _
      refine zwM_one (i := .aload_n 0) (e := zm_133) rfl rfl rfl rfl (fun _ => rfl) ?_
      show zwM 2 133 18 [some (.ref 58), some (.int a1), some (.int a2), some (.int a3), some (.int a4), some (.int a5), none, none, none, none] [.ref 58] h _
      refine zwM_one (i := .iload_n 1) (e := zm_133) rfl rfl rfl rfl (fun _ => rfl) ?_
      show zwM 2 133 19 [some (.ref 58), some (.int a1), some (.int a2), some (.int a3), some (.int a4), some (.int a5), none, none, none, none] [.int a1, .ref 58] h _
      refine wk_callV (e := zm_133) (M' := 129) (e' := zm_129) rfl rfl rfl rfl rfl ?_
      refine zm_imp (zm_le (show 0 ≤ 1 by decide) (f_129 h a1 (by omega) (by omega))) (fun rv h' hr => ?_)
      rw [hr.1, hr.2]
      show zwM 2 133 22 [some (.ref 58), some (.int a1), some (.int a2), some (.int a3), some (.int a4), some (.int a5), none, none, none, none] [.int (zbo ((h.1 59 a1.toNatClampNeg).toInt < 0))] h _
      refine wk_bNe (e := zm_133) (t := 33) rfl rfl rfl (fun c3 => ?_) (fun c3 => ?_)
      · show zwM 2 133 33 [some (.ref 58), some (.int a1), some (.int a2), some (.int a3), some (.int a4), some (.int a5), none, none, none, none] [] h _
        refine zwM_one (i := .aload_n 0) (e := zm_133) rfl rfl rfl rfl (fun _ => rfl) ?_
        show zwM 2 133 34 [some (.ref 58), some (.int a1), some (.int a2), some (.int a3), some (.int a4), some (.int a5), none, none, none, none] [.ref 58] h _
        refine zwM_one (i := .iconst 1) (e := zm_133) rfl rfl rfl rfl (fun _ => rfl) ?_
        show zwM 2 133 35 [some (.ref 58), some (.int a1), some (.int a2), some (.int a3), some (.int a4), some (.int a5), none, none, none, none] [.int (Int32.ofInt 1), .ref 58] h _
        refine wk_callV (e := zm_133) (M' := 125) (e' := zm_125) rfl rfl rfl rfl rfl ?_
        refine zm_imp (zm_le (show 0 ≤ 1 by decide) (f_125 h (Int32.ofInt 1))) (fun rv h' hr => ?_)
        rw [hr.1, hr.2]
        show zwM 2 133 38 [some (.ref 58), some (.int a1), some (.int a2), some (.int a3), some (.int a4), some (.int a5), none, none, none, none] [.int ((-1000010 : Int32) - (Int32.ofInt 1))] (zSet h 58 3 (Int32.ofInt 1)) _
        refine zwM_ret (e := zm_133) (i := .ireturn) rfl rfl rfl ?_
        exact ⟨⟨_, rfl⟩, ty_set ht rfl, W_set hW.rf ⟨(58, 3, 3), by decide, rfl, Nat.le_refl _, Nat.le_refl _⟩⟩
      · show zwM 2 133 25 [some (.ref 58), some (.int a1), some (.int a2), some (.int a3), some (.int a4), some (.int a5), none, none, none, none] [] h _
        refine zwM_one (i := .aload_n 0) (e := zm_133) rfl rfl rfl rfl (fun _ => rfl) ?_
        show zwM 2 133 26 [some (.ref 58), some (.int a1), some (.int a2), some (.int a3), some (.int a4), some (.int a5), none, none, none, none] [.ref 58] h _
        refine zwM_one (i := .iload_n 3) (e := zm_133) rfl rfl rfl rfl (fun _ => rfl) ?_
        show zwM 2 133 27 [some (.ref 58), some (.int a1), some (.int a2), some (.int a3), some (.int a4), some (.int a5), none, none, none, none] [.int a3, .ref 58] h _
        refine wk_callV (e := zm_133) (M' := 129) (e' := zm_129) rfl rfl rfl rfl rfl ?_
        refine zm_imp (zm_le (show 0 ≤ 1 by decide) (f_129 h a3 (by omega) (by omega))) (fun rv h' hr => ?_)
        rw [hr.1, hr.2]
        show zwM 2 133 30 [some (.ref 58), some (.int a1), some (.int a2), some (.int a3), some (.int a4), some (.int a5), none, none, none, none] [.int (zbo ((h.1 59 a3.toNatClampNeg).toInt < 0))] h _
        refine wk_bEq (e := zm_133) (t := 39) rfl rfl rfl (fun c4 => ?_) (fun c4 => ?_)
        · show zwM 2 133 39 [some (.ref 58), some (.int a1), some (.int a2), some (.int a3), some (.int a4), some (.int a5), none, none, none, none] [] h _
          refine zwM_one (i := .aload_n 0) (e := zm_133) rfl rfl rfl rfl (fun _ => rfl) ?_
          show zwM 2 133 40 [some (.ref 58), some (.int a1), some (.int a2), some (.int a3), some (.int a4), some (.int a5), none, none, none, none] [.ref 58] h _
          refine zwM_one (i := .getfield 7) (e := zm_133) rfl rfl rfl rfl (fun _ => rfl) ?_
          show zwM 2 133 43 [some (.ref 58), some (.int a1), some (.int a2), some (.int a3), some (.int a4), some (.int a5), none, none, none, none] [.ref 59] h _
          refine zwM_one (i := .iload_n 1) (e := zm_133) rfl rfl rfl rfl (fun _ => rfl) ?_
          show zwM 2 133 44 [some (.ref 58), some (.int a1), some (.int a2), some (.int a3), some (.int a4), some (.int a5), none, none, none, none] [.int a1, .ref 59] h _
          refine wk_ial (e := zm_133) (n := 8) (f := h.1 59) rfl rfl rfl rfl (by omega) (by omega) ?_
          show zwM 2 133 45 [some (.ref 58), some (.int a1), some (.int a2), some (.int a3), some (.int a4), some (.int a5), none, none, none, none] [.int (h.1 59 a1.toNatClampNeg)] h _
          refine zwM_one (i := .aload_n 0) (e := zm_133) rfl rfl rfl rfl (fun _ => rfl) ?_
          show zwM 2 133 46 [some (.ref 58), some (.int a1), some (.int a2), some (.int a3), some (.int a4), some (.int a5), none, none, none, none] [.ref 58, .int (h.1 59 a1.toNatClampNeg)] h _
          refine zwM_one (i := .getfield 7) (e := zm_133) rfl rfl rfl rfl (fun _ => rfl) ?_
          show zwM 2 133 49 [some (.ref 58), some (.int a1), some (.int a2), some (.int a3), some (.int a4), some (.int a5), none, none, none, none] [.ref 59, .int (h.1 59 a1.toNatClampNeg)] h _
          refine zwM_one (i := .iload_n 3) (e := zm_133) rfl rfl rfl rfl (fun _ => rfl) ?_
          show zwM 2 133 50 [some (.ref 58), some (.int a1), some (.int a2), some (.int a3), some (.int a4), some (.int a5), none, none, none, none] [.int a3, .ref 59, .int (h.1 59 a1.toNatClampNeg)] h _
          refine wk_ial (e := zm_133) (n := 8) (f := h.1 59) rfl rfl rfl rfl (by omega) (by omega) ?_
          show zwM 2 133 51 [some (.ref 58), some (.int a1), some (.int a2), some (.int a3), some (.int a4), some (.int a5), none, none, none, none] [.int (h.1 59 a3.toNatClampNeg), .int (h.1 59 a1.toNatClampNeg)] h _
          refine wk_ic_eq (e := zm_133) (t := 60) rfl rfl rfl rfl rfl (fun c5 => ?_) (fun c5 => ?_)
          · show zwM 2 133 60 [some (.ref 58), some (.int a1), some (.int a2), some (.int a3), some (.int a4), some (.int a5), none, none, none, none] [] h _
            refine zwM_one (i := .aload_n 0) (e := zm_133) rfl rfl rfl rfl (fun _ => rfl) ?_
            show zwM 2 133 61 [some (.ref 58), some (.int a1), some (.int a2), some (.int a3), some (.int a4), some (.int a5), none, none, none, none] [.ref 58] h _
            refine zwM_one (i := .iload_n 1) (e := zm_133) rfl rfl rfl rfl (fun _ => rfl) ?_
            show zwM 2 133 62 [some (.ref 58), some (.int a1), some (.int a2), some (.int a3), some (.int a4), some (.int a5), none, none, none, none] [.int a1, .ref 58] h _
            refine zwM_one (i := .iload_n 2) (e := zm_133) rfl rfl rfl rfl (fun _ => rfl) ?_
            show zwM 2 133 63 [some (.ref 58), some (.int a1), some (.int a2), some (.int a3), some (.int a4), some (.int a5), none, none, none, none] [.int a2, .int a1, .ref 58] h _
            refine zwM_one (i := .iload 5) (e := zm_133) rfl rfl rfl rfl (fun _ => rfl) ?_
            show zwM 2 133 65 [some (.ref 58), some (.int a1), some (.int a2), some (.int a3), some (.int a4), some (.int a5), none, none, none, none] [.int a5, .int a2, .int a1, .ref 58] h _
            refine wk_callV (e := zm_133) (M' := 132) (e' := zm_132) rfl rfl rfl rfl rfl ?_
            refine zm_imp (zm_le (show 0 ≤ 1 by decide) (f_132 h a1 a2 a5 ht (by omega) (by omega))) (fun rv h' hr => ?_)
            rw [hr.1, hr.2]
            show zwM 2 133 68 [some (.ref 58), some (.int a1), some (.int a2), some (.int a3), some (.int a4), some (.int a5), none, none, none, none] [.int (zbo (0 ≤ a2.toInt ∧ 0 ≤ a5.toInt ∧ a2.toInt ≤ (h.1 60 a1.toNatClampNeg).toInt ∧ a5.toInt ≤ (h.1 60 a1.toNatClampNeg).toInt - a2.toInt))] h _
            refine wk_bEq (e := zm_133) (t := 83) rfl rfl rfl (fun c6 => ?_) (fun c6 => ?_)
            · show zwM 2 133 83 [some (.ref 58), some (.int a1), some (.int a2), some (.int a3), some (.int a4), some (.int a5), none, none, none, none] [] h _
              refine zwM_one (i := .aload_n 0) (e := zm_133) rfl rfl rfl rfl (fun _ => rfl) ?_
              show zwM 2 133 84 [some (.ref 58), some (.int a1), some (.int a2), some (.int a3), some (.int a4), some (.int a5), none, none, none, none] [.ref 58] h _
              refine zwM_one (i := .iconst 2) (e := zm_133) rfl rfl rfl rfl (fun _ => rfl) ?_
              show zwM 2 133 85 [some (.ref 58), some (.int a1), some (.int a2), some (.int a3), some (.int a4), some (.int a5), none, none, none, none] [.int (Int32.ofInt 2), .ref 58] h _
              refine wk_callV (e := zm_133) (M' := 125) (e' := zm_125) rfl rfl rfl rfl rfl ?_
              refine zm_imp (zm_le (show 0 ≤ 1 by decide) (f_125 h (Int32.ofInt 2))) (fun rv h' hr => ?_)
              rw [hr.1, hr.2]
              show zwM 2 133 88 [some (.ref 58), some (.int a1), some (.int a2), some (.int a3), some (.int a4), some (.int a5), none, none, none, none] [.int ((-1000010 : Int32) - (Int32.ofInt 2))] (zSet h 58 3 (Int32.ofInt 2)) _
              refine zwM_ret (e := zm_133) (i := .ireturn) rfl rfl rfl ?_
              exact ⟨⟨_, rfl⟩, ty_set ht rfl, W_set hW.rf ⟨(58, 3, 3), by decide, rfl, Nat.le_refl _, Nat.le_refl _⟩⟩
            · show zwM 2 133 71 [some (.ref 58), some (.int a1), some (.int a2), some (.int a3), some (.int a4), some (.int a5), none, none, none, none] [] h _
              refine zwM_one (i := .aload_n 0) (e := zm_133) rfl rfl rfl rfl (fun _ => rfl) ?_
              show zwM 2 133 72 [some (.ref 58), some (.int a1), some (.int a2), some (.int a3), some (.int a4), some (.int a5), none, none, none, none] [.ref 58] h _
              refine zwM_one (i := .iload_n 3) (e := zm_133) rfl rfl rfl rfl (fun _ => rfl) ?_
              show zwM 2 133 73 [some (.ref 58), some (.int a1), some (.int a2), some (.int a3), some (.int a4), some (.int a5), none, none, none, none] [.int a3, .ref 58] h _
              refine zwM_one (i := .iload 4) (e := zm_133) rfl rfl rfl rfl (fun _ => rfl) ?_
              show zwM 2 133 75 [some (.ref 58), some (.int a1), some (.int a2), some (.int a3), some (.int a4), some (.int a5), none, none, none, none] [.int a4, .int a3, .ref 58] h _
              refine zwM_one (i := .iload 5) (e := zm_133) rfl rfl rfl rfl (fun _ => rfl) ?_
              show zwM 2 133 77 [some (.ref 58), some (.int a1), some (.int a2), some (.int a3), some (.int a4), some (.int a5), none, none, none, none] [.int a5, .int a4, .int a3, .ref 58] h _
              refine wk_callV (e := zm_133) (M' := 132) (e' := zm_132) rfl rfl rfl rfl rfl ?_
              refine zm_imp (zm_le (show 0 ≤ 1 by decide) (f_132 h a3 a4 a5 ht (by omega) (by omega))) (fun rv h' hr => ?_)
              rw [hr.1, hr.2]
              show zwM 2 133 80 [some (.ref 58), some (.int a1), some (.int a2), some (.int a3), some (.int a4), some (.int a5), none, none, none, none] [.int (zbo (0 ≤ a4.toInt ∧ 0 ≤ a5.toInt ∧ a4.toInt ≤ (h.1 60 a3.toNatClampNeg).toInt ∧ a5.toInt ≤ (h.1 60 a3.toNatClampNeg).toInt - a4.toInt))] h _
              refine wk_bNe (e := zm_133) (t := 89) rfl rfl rfl (fun c7 => ?_) (fun c7 => ?_)
              · show zwM 2 133 89 [some (.ref 58), some (.int a1), some (.int a2), some (.int a3), some (.int a4), some (.int a5), none, none, none, none] [] h _
                refine zwM_one (i := .bipush 40) (e := zm_133) rfl rfl rfl rfl (fun _ => rfl) ?_
                show zwM 2 133 91 [some (.ref 58), some (.int a1), some (.int a2), some (.int a3), some (.int a4), some (.int a5), none, none, none, none] [.int (Int8.ofInt 40).toInt32] h _
                refine zwM_one (i := .iload_n 1) (e := zm_133) rfl rfl rfl rfl (fun _ => rfl) ?_
                show zwM 2 133 92 [some (.ref 58), some (.int a1), some (.int a2), some (.int a3), some (.int a4), some (.int a5), none, none, none, none] [.int a1, .int (Int8.ofInt 40).toInt32] h _
                have e8 : ((Int8.ofInt 40).toInt32 * a1).toInt = (40 * a1.toInt) := (wk_mul (show (Int8.ofInt 40).toInt32.toInt = 40 by decide) rfl (by omega) (by omega))
                refine zwM_one (i := .imul) (e := zm_133) rfl rfl rfl rfl (fun _ => rfl) ?_
                show zwM 2 133 93 [some (.ref 58), some (.int a1), some (.int a2), some (.int a3), some (.int a4), some (.int a5), none, none, none, none] [.int ((Int8.ofInt 40).toInt32 * a1)] h _
                refine zwM_one (i := .iload_n 2) (e := zm_133) rfl rfl rfl rfl (fun _ => rfl) ?_
                show zwM 2 133 94 [some (.ref 58), some (.int a1), some (.int a2), some (.int a3), some (.int a4), some (.int a5), none, none, none, none] [.int a2, .int ((Int8.ofInt 40).toInt32 * a1)] h _
                have e9 : (((Int8.ofInt 40).toInt32 * a1) + a2).toInt = ((40 * a1.toInt) + a2.toInt) := (wk_add e8 rfl (by omega) (by omega))
                refine zwM_one (i := .iadd) (e := zm_133) rfl rfl rfl rfl (fun _ => rfl) ?_
                show zwM 2 133 95 [some (.ref 58), some (.int a1), some (.int a2), some (.int a3), some (.int a4), some (.int a5), none, none, none, none] [.int (((Int8.ofInt 40).toInt32 * a1) + a2)] h _
                refine zwM_one (i := .istore 6) (e := zm_133) rfl rfl rfl rfl (fun _ => rfl) ?_
                show zwM 2 133 97 [some (.ref 58), some (.int a1), some (.int a2), some (.int a3), some (.int a4), some (.int a5), some (.int (((Int8.ofInt 40).toInt32 * a1) + a2)), none, none, none] [] h _
                refine zwM_one (i := .bipush 40) (e := zm_133) rfl rfl rfl rfl (fun _ => rfl) ?_
                show zwM 2 133 99 [some (.ref 58), some (.int a1), some (.int a2), some (.int a3), some (.int a4), some (.int a5), some (.int (((Int8.ofInt 40).toInt32 * a1) + a2)), none, none, none] [.int (Int8.ofInt 40).toInt32] h _
                refine zwM_one (i := .iload_n 3) (e := zm_133) rfl rfl rfl rfl (fun _ => rfl) ?_
                show zwM 2 133 100 [some (.ref 58), some (.int a1), some (.int a2), some (.int a3), some (.int a4), some (.int a5), some (.int (((Int8.ofInt 40).toInt32 * a1) + a2)), none, none, none] [.int a3, .int (Int8.ofInt 40).toInt32] h _
                have e10 : ((Int8.ofInt 40).toInt32 * a3).toInt = (40 * a3.toInt) := (wk_mul (show (Int8.ofInt 40).toInt32.toInt = 40 by decide) rfl (by omega) (by omega))
                refine zwM_one (i := .imul) (e := zm_133) rfl rfl rfl rfl (fun _ => rfl) ?_
                show zwM 2 133 101 [some (.ref 58), some (.int a1), some (.int a2), some (.int a3), some (.int a4), some (.int a5), some (.int (((Int8.ofInt 40).toInt32 * a1) + a2)), none, none, none] [.int ((Int8.ofInt 40).toInt32 * a3)] h _
                refine zwM_one (i := .iload 4) (e := zm_133) rfl rfl rfl rfl (fun _ => rfl) ?_
                show zwM 2 133 103 [some (.ref 58), some (.int a1), some (.int a2), some (.int a3), some (.int a4), some (.int a5), some (.int (((Int8.ofInt 40).toInt32 * a1) + a2)), none, none, none] [.int a4, .int ((Int8.ofInt 40).toInt32 * a3)] h _
                have e11 : (((Int8.ofInt 40).toInt32 * a3) + a4).toInt = ((40 * a3.toInt) + a4.toInt) := (wk_add e10 rfl (by omega) (by omega))
                refine zwM_one (i := .iadd) (e := zm_133) rfl rfl rfl rfl (fun _ => rfl) ?_
                show zwM 2 133 104 [some (.ref 58), some (.int a1), some (.int a2), some (.int a3), some (.int a4), some (.int a5), some (.int (((Int8.ofInt 40).toInt32 * a1) + a2)), none, none, none] [.int (((Int8.ofInt 40).toInt32 * a3) + a4)] h _
                refine zwM_one (i := .istore 7) (e := zm_133) rfl rfl rfl rfl (fun _ => rfl) ?_
                show zwM 2 133 106 [some (.ref 58), some (.int a1), some (.int a2), some (.int a3), some (.int a4), some (.int a5), some (.int (((Int8.ofInt 40).toInt32 * a1) + a2)), some (.int (((Int8.ofInt 40).toInt32 * a3) + a4)), none, none] [] h _
                refine zwM_one (i := .iconst 0) (e := zm_133) rfl rfl rfl rfl (fun _ => rfl) ?_
                show zwM 2 133 107 [some (.ref 58), some (.int a1), some (.int a2), some (.int a3), some (.int a4), some (.int a5), some (.int (((Int8.ofInt 40).toInt32 * a1) + a2)), some (.int (((Int8.ofInt 40).toInt32 * a3) + a4)), none, none] [.int (Int32.ofInt 0)] h _
                refine zwM_one (i := .istore 8) (e := zm_133) rfl rfl rfl rfl (fun _ => rfl) ?_
                show zwM 2 133 109 [some (.ref 58), some (.int a1), some (.int a2), some (.int a3), some (.int a4), some (.int a5), some (.int (((Int8.ofInt 40).toInt32 * a1) + a2)), some (.int (((Int8.ofInt 40).toInt32 * a3) + a4)), some (.int (Int32.ofInt 0)), none] [] h _
                exact f_133_l a1 a2 a3 a4 a5 _ _ h (by omega) (by omega) (by omega) (by omega) (by omega) a5.toInt.toNat _ _ _ (by show (0 : Int) + _ = _; omega) (by decide) ht hW.rf
              · show zwM 2 133 83 [some (.ref 58), some (.int a1), some (.int a2), some (.int a3), some (.int a4), some (.int a5), none, none, none, none] [] h _
                refine zwM_one (i := .aload_n 0) (e := zm_133) rfl rfl rfl rfl (fun _ => rfl) ?_
                show zwM 2 133 84 [some (.ref 58), some (.int a1), some (.int a2), some (.int a3), some (.int a4), some (.int a5), none, none, none, none] [.ref 58] h _
                refine zwM_one (i := .iconst 2) (e := zm_133) rfl rfl rfl rfl (fun _ => rfl) ?_
                show zwM 2 133 85 [some (.ref 58), some (.int a1), some (.int a2), some (.int a3), some (.int a4), some (.int a5), none, none, none, none] [.int (Int32.ofInt 2), .ref 58] h _
                refine wk_callV (e := zm_133) (M' := 125) (e' := zm_125) rfl rfl rfl rfl rfl ?_
                refine zm_imp (zm_le (show 0 ≤ 1 by decide) (f_125 h (Int32.ofInt 2))) (fun rv h' hr => ?_)
                rw [hr.1, hr.2]
                show zwM 2 133 88 [some (.ref 58), some (.int a1), some (.int a2), some (.int a3), some (.int a4), some (.int a5), none, none, none, none] [.int ((-1000010 : Int32) - (Int32.ofInt 2))] (zSet h 58 3 (Int32.ofInt 2)) _
                refine zwM_ret (e := zm_133) (i := .ireturn) rfl rfl rfl ?_
                exact ⟨⟨_, rfl⟩, ty_set ht rfl, W_set hW.rf ⟨(58, 3, 3), by decide, rfl, Nat.le_refl _, Nat.le_refl _⟩⟩
          · show zwM 2 133 54 [some (.ref 58), some (.int a1), some (.int a2), some (.int a3), some (.int a4), some (.int a5), none, none, none, none] [] h _
            refine zwM_one (i := .aload_n 0) (e := zm_133) rfl rfl rfl rfl (fun _ => rfl) ?_
            show zwM 2 133 55 [some (.ref 58), some (.int a1), some (.int a2), some (.int a3), some (.int a4), some (.int a5), none, none, none, none] [.ref 58] h _
            refine zwM_one (i := .iconst 5) (e := zm_133) rfl rfl rfl rfl (fun _ => rfl) ?_
            show zwM 2 133 56 [some (.ref 58), some (.int a1), some (.int a2), some (.int a3), some (.int a4), some (.int a5), none, none, none, none] [.int (Int32.ofInt 5), .ref 58] h _
            refine wk_callV (e := zm_133) (M' := 125) (e' := zm_125) rfl rfl rfl rfl rfl ?_
            refine zm_imp (zm_le (show 0 ≤ 1 by decide) (f_125 h (Int32.ofInt 5))) (fun rv h' hr => ?_)
            rw [hr.1, hr.2]
            show zwM 2 133 59 [some (.ref 58), some (.int a1), some (.int a2), some (.int a3), some (.int a4), some (.int a5), none, none, none, none] [.int ((-1000010 : Int32) - (Int32.ofInt 5))] (zSet h 58 3 (Int32.ofInt 5)) _
            refine zwM_ret (e := zm_133) (i := .ireturn) rfl rfl rfl ?_
            exact ⟨⟨_, rfl⟩, ty_set ht rfl, W_set hW.rf ⟨(58, 3, 3), by decide, rfl, Nat.le_refl _, Nat.le_refl _⟩⟩
        · show zwM 2 133 33 [some (.ref 58), some (.int a1), some (.int a2), some (.int a3), some (.int a4), some (.int a5), none, none, none, none] [] h _
          refine zwM_one (i := .aload_n 0) (e := zm_133) rfl rfl rfl rfl (fun _ => rfl) ?_
          show zwM 2 133 34 [some (.ref 58), some (.int a1), some (.int a2), some (.int a3), some (.int a4), some (.int a5), none, none, none, none] [.ref 58] h _
          refine zwM_one (i := .iconst 1) (e := zm_133) rfl rfl rfl rfl (fun _ => rfl) ?_
          show zwM 2 133 35 [some (.ref 58), some (.int a1), some (.int a2), some (.int a3), some (.int a4), some (.int a5), none, none, none, none] [.int (Int32.ofInt 1), .ref 58] h _
          refine wk_callV (e := zm_133) (M' := 125) (e' := zm_125) rfl rfl rfl rfl rfl ?_
          refine zm_imp (zm_le (show 0 ≤ 1 by decide) (f_125 h (Int32.ofInt 1))) (fun rv h' hr => ?_)
          rw [hr.1, hr.2]
          show zwM 2 133 38 [some (.ref 58), some (.int a1), some (.int a2), some (.int a3), some (.int a4), some (.int a5), none, none, none, none] [.int ((-1000010 : Int32) - (Int32.ofInt 1))] (zSet h 58 3 (Int32.ofInt 1)) _
          refine zwM_ret (e := zm_133) (i := .ireturn) rfl rfl rfl ?_
          exact ⟨⟨_, rfl⟩, ty_set ht rfl, W_set hW.rf ⟨(58, 3, 3), by decide, rfl, Nat.le_refl _, Nat.le_refl _⟩⟩
    · show zwM 2 133 14 [some (.ref 58), some (.int a1), some (.int a2), some (.int a3), some (.int a4), some (.int a5), none, none, none, none] [] h _
      refine zwM_one (i := .ldc 69) (e := zm_133) rfl rfl rfl rfl (fun _ => rfl) ?_
      show zwM 2 133 16 [some (.ref 58), some (.int a1), some (.int a2), some (.int a3), some (.int a4), some (.int a5), none, none, none, none] [.int (-1000001 : Int32)] h _
      refine zwM_ret (e := zm_133) (i := .ireturn) rfl rfl rfl ?_
      exact ⟨⟨_, rfl⟩, ht, hW.rf⟩
theorem copyB_y : yOk 133 ([.inr 58, .inl (false, iMin, iMax, false), .inl (false, iMin, iMax, false), .inl (false, iMin, iMax, false), .inl (false, iMin, iMax, false), .inl (false, iMin, iMax, false)], [], [(some (false, iMin, iMax, false), [])], Wcp, 2) := by
  intro as h ht hp _
  match as, hp with
  | [v0, v1, v2, v3, v4, v5], hp =>
    obtain ⟨h0, h1, h2, h3, h4, h5, -⟩ := hp
    have h0 : v0 = .ref 58 := h0
    obtain ⟨u1, rfl⟩ := int_any h1
    obtain ⟨u2, rfl⟩ := int_any h2
    obtain ⟨u3, rfl⟩ := int_any h3
    obtain ⟨u4, rfl⟩ := int_any h4
    obtain ⟨u5, rfl⟩ := int_any h5
    subst h0
    refine zm_imp (f_133 h u1 u2 u3 u4 u5 ht) (fun rv h' hq => ?_)
    obtain ⟨⟨u, q1⟩, q2, q3⟩ := hq
    subst q1
    exact ⟨q2, q3, _, List.mem_cons_self, any_int u, fun e he => by cases he⟩
  | [], hp => exact hp.elim
  | [_], hp => exact hp.2.elim
  | [_, _], hp => exact hp.2.2.elim
  | [_, _, _], hp => exact hp.2.2.2.elim
  | [_, _, _, _], hp => exact hp.2.2.2.2.elim
  | [_, _, _, _, _], hp => exact hp.2.2.2.2.2.elim
  | _ :: _ :: _ :: _ :: _ :: _ :: _ :: _, hp => exact hp.2.2.2.2.2.2.elim

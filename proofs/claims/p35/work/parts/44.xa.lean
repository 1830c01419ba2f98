/-! rows: what their methods answer and leave -/
theorem zbT {p : Prop} [Decidable p] (hp : p) : zbo p = Int32.ofInt 1 := by
  unfold zbo
  rw [if_pos hp]
  rfl
theorem zbF {p : Prop} [Decidable p] (hp : ¬ p) : zbo p = Int32.ofInt 0 := by
  unfold zbo
  rw [if_neg hp]
  rfl
theorem zbC {p q : Prop} [Decidable p] [Decidable q] (hpq : p ↔ q) : zbo p = zbo q := by
  unfold zbo
  by_cases hp : p
  · rw [if_pos hp, if_pos (hpq.mp hp)]
  · rw [if_neg hp, if_neg (fun z => hp (hpq.mpr z))]
theorem zb0 {p : Prop} [Decidable p] : (zbo p).toInt = 0 ↔ ¬ p := by
  unfold zbo
  by_cases hp : p
  · rw [if_pos hp]; exact ⟨fun z => absurd z (by decide), fun z => absurd hp z⟩
  · rw [if_neg hp]; exact ⟨fun _ => hp, fun _ => rfl⟩
theorem zb1 {p : Prop} [Decidable p] : ¬ (zbo p).toInt = 0 ↔ p := by
  rw [zb0]
  exact Decidable.not_not
theorem zb2 {p : Prop} [Decidable p] : ¬ (¬ (zbo p).toInt = 0) ↔ ¬ p := by
  rw [zb1]
theorem ai {x : Int32} {k : Int} (h1 : -2147483648 ≤ k) (h2 : k < 2147483648) (h3 : -2147483648 ≤ x.toInt + k) (h4 : x.toInt + k < 2147483648) : (x + Int32.ofInt k).toInt = x.toInt + k := by
  have e : (Int32.ofInt k).toInt = k := Int32.toInt_ofInt_of_le (by omega) (by omega)
  exact wk_add rfl e h3 h4
theorem mi {x : Int32} {k : Int} (h1 : -2147483648 ≤ k) (h2 : k < 2147483648) (h3 : -2147483648 ≤ k * x.toInt) (h4 : k * x.toInt < 2147483648) : (Int32.ofInt k * x).toInt = k * x.toInt := by
  have e : (Int32.ofInt k).toInt = k := Int32.toInt_ofInt_of_le (by omega) (by omega)
  exact wk_mul e rfl h3 h4
theorem si {x : Int32} {k : Int} (h1 : -2147483648 ≤ k) (h2 : k < 2147483648) (h3 : -2147483648 ≤ x.toInt - k) (h4 : x.toInt - k < 2147483648) : (x - Int32.ofInt k).toInt = x.toInt - k := by
  have e : (Int32.ofInt k).toInt = k := Int32.toInt_ofInt_of_le (by omega) (by omega)
  exact wk_sub rfl e h3 h4
theorem tLe {h : zH} (ht : hTy h) (j : Nat) : (h.1 12 j).toInt ≤ 40 := (ht 12 j).2
theorem tSz {h : zH} (ht : hTy h) (j : Nat) : 0 ≤ (h.1 60 j).toInt ∧ (h.1 60 j).toInt ≤ 40 := ht 60 j
theorem i40 {r i : Int32} (r0 : 0 ≤ r.toInt) (r1 : r.toInt < 8) (i0 : 0 ≤ i.toInt) (i1 : i.toInt < 40 + 1) : (Int32.ofInt 40 * r + i).toInt = 40 * r.toInt + i.toInt := wk_add (mi (by omega) (by omega) (by omega) (by omega)) rfl (by omega) (by omega)
theorem q_68 {h : zH} {Q : Option Value → zH → Prop} (a0 : Int32) (H : Q (some (.int (zbo (0 ≤ a0.toInt ∧ a0.toInt < 8)))) h) : zqm 68 [.int a0] h Q := by
  refine s_68 a0 ?_
  refine ⟨fun c1 => ?_, fun c1 => ?_⟩
  · skip
    rw [zbF (by omega)] at H
    exact H
  · skip
    refine ⟨fun c2 => ?_, fun c2 => ?_⟩
    · skip
      rw [zbF (by omega)] at H
      exact H
    · skip
      rw [zbT (by omega)] at H
      exact H
theorem q_69 {h : zH} {Q : Option Value → zH → Prop} (a0 : Int32) (H : Q (some (.int (zbo (0 ≤ a0.toInt ∧ a0.toInt < 3)))) h) : zqm 69 [.int a0] h Q := by
  refine s_69 a0 ?_
  refine ⟨fun c1 => ?_, fun c1 => ?_⟩
  · skip
    rw [zbF (by omega)] at H
    exact H
  · skip
    refine ⟨fun c2 => ?_, fun c2 => ?_⟩
    · skip
      rw [zbF (by omega)] at H
      exact H
    · skip
      rw [zbT (by omega)] at H
      exact H
theorem q_121 {h : zH} {Q : Option Value → zH → Prop} (a0 : Int32) (a1 : Int32) (a2 : Int32) (H : Q (some (.int (zbo (a1.toInt ≤ a0.toInt ∧ a0.toInt ≤ a2.toInt)))) h) : zqm 121 [.int a0, .int a1, .int a2] h Q := by
  refine s_121 a0 a1 a2 ?_
  refine ⟨fun c1 => ?_, fun c1 => ?_⟩
  · skip
    rw [zbF (by omega)] at H
    exact H
  · skip
    refine ⟨fun c2 => ?_, fun c2 => ?_⟩
    · skip
      rw [zbF (by omega)] at H
      exact H
    · skip
      rw [zbT (by omega)] at H
      exact H
theorem q_128 {h : zH} {Q : Option Value → zH → Prop} (a0 : Int32) (H : Q (some (.int (zbo (0 ≤ a0.toInt ∧ a0.toInt < 8)))) h) : zqm 128 [.int a0] h Q := by
  refine s_128 a0 ?_
  have z1_1 : ((Int32.ofInt 0)).toInt = 0 := by decide
  have z1_2 : ((Int32.ofInt 7)).toInt = 7 := by decide
  refine q_121 a0 (Int32.ofInt 0) (Int32.ofInt 7) ?_
  refine zri_int ?_
  rw [zbC (q := (0 : Int) ≤ a0.toInt ∧ a0.toInt ≤ (7 : Int)) (by omega)] at H
  exact H
theorem q_114 {h : zH} {Q : Option Value → zH → Prop} (a1 : Int32) (H : Q (some (.int ((-1000010 : Int32) - a1))) (zSet h 0 11 a1)) : zqm 114 [.ref 0, .int a1] h Q := by
  refine s_114 a1 ?_
  exact H
theorem q_115 {h : zH} {Q : Option Value → zH → Prop} (a1 : Int32) (H : Q (some (.int (a1))) (zSet h 0 11 (Int32.ofInt 0))) : zqm 115 [.ref 0, .int a1] h Q := by
  refine s_115 a1 ?_
  exact H
theorem q_125 {h : zH} {Q : Option Value → zH → Prop} (a1 : Int32) (H : Q (some (.int ((-1000010 : Int32) - a1))) (zSet h 58 3 a1)) : zqm 125 [.ref 58, .int a1] h Q := by
  refine s_125 a1 ?_
  exact H
theorem q_126 {h : zH} {Q : Option Value → zH → Prop} (a1 : Int32) (H : Q (some (.int (a1))) (zSet h 58 3 (Int32.ofInt 0))) : zqm 126 [.ref 58, .int a1] h Q := by
  refine s_126 a1 ?_
  exact H
theorem q_70 {h : zH} {Q : Option Value → zH → Prop} (a1 : Int32) (H : Q (some (.int (zbo (¬ (0 ≤ a1.toInt ∧ a1.toInt < 8) ∨ (h.1 12 a1.toInt.toNat).toInt < 0)))) h) : zqm 70 [.ref 1, .int a1] h Q := by
  refine s_70 a1 ?_
  refine q_68 a1 ?_
  refine zri_int ?_
  refine ⟨fun c2 => ?_, fun c2 => ?_⟩
  · have c2 := zb0.mp c2
    rw [zbT (by omega)] at H
    exact H
  · have c2 := zb1.mp c2
    intro b3 b3'
    refine ⟨fun c4 => ?_, fun c4 => ?_⟩
    · skip
      rw [zbF (by omega)] at H
      exact H
    · skip
      rw [zbT (by omega)] at H
      exact H
theorem q_71 {h : zH} {Q : Option Value → zH → Prop} (a1 : Int32) (a2 : Int32) (a3 : Int32) (ht : (h.1 12 a1.toInt.toNat).toInt ≤ 40) (H : Q (some (.int (zbo ((0 ≤ a1.toInt ∧ a1.toInt < 8) ∧ 0 ≤ a2.toInt ∧ 0 ≤ a3.toInt ∧ a2.toInt ≤ (h.1 12 a1.toInt.toNat).toInt ∧ a3.toInt ≤ (h.1 12 a1.toInt.toNat).toInt - a2.toInt)))) h) : zqm 71 [.ref 1, .int a1, .int a2, .int a3] h Q := by
  have e1 : 0 ≤ a2.toInt → a2.toInt ≤ (h.1 12 a1.toInt.toNat).toInt → ((h.1 12 a1.toInt.toNat) - a2).toInt = (h.1 12 a1.toInt.toNat).toInt - a2.toInt := fun z1 z2 => wk_sub rfl rfl (by omega) (by omega)
  refine s_71 a1 a2 a3 ?_
  refine q_68 a1 ?_
  refine zri_int ?_
  refine ⟨fun c2 => ?_, fun c2 => ?_⟩
  · have c2 := zb0.mp c2
    rw [zbF (by omega)] at H
    exact H
  · have c2 := zb1.mp c2
    refine ⟨fun c3 => ?_, fun c3 => ?_⟩
    · skip
      rw [zbF (by omega)] at H
      exact H
    · skip
      refine ⟨fun c4 => ?_, fun c4 => ?_⟩
      · skip
        rw [zbF (by omega)] at H
        exact H
      · skip
        intro b5 b5'
        refine ⟨fun c6 => ?_, fun c6 => ?_⟩
        · skip
          rw [zbF (by omega)] at H
          exact H
        · skip
          intro b7 b7'
          refine ⟨fun c8 => ?_, fun c8 => ?_⟩
          · skip
            rw [zbF (by omega)] at H
            exact H
          · skip
            rw [zbT (by omega)] at H
            exact H
theorem q_72 {h : zH} {Q : Option Value → zH → Prop} (a1 : Int32) (a2 : Int32) (H : Q (some (.int (zbo ((0 ≤ a1.toInt ∧ a1.toInt < 8) ∧ (0 ≤ a2.toInt ∧ a2.toInt < 8) ∧ (h.1 11 a1.toInt.toNat).toInt = (h.1 11 a2.toInt.toNat).toInt)))) h) : zqm 72 [.ref 1, .int a1, .int a2] h Q := by
  refine s_72 a1 a2 ?_
  refine q_68 a1 ?_
  refine zri_int ?_
  refine ⟨fun c2 => ?_, fun c2 => ?_⟩
  · have c2 := zb0.mp c2
    rw [zbF (by omega)] at H
    exact H
  · have c2 := zb1.mp c2
    refine q_68 a2 ?_
    refine zri_int ?_
    refine ⟨fun c4 => ?_, fun c4 => ?_⟩
    · have c4 := zb0.mp c4
      rw [zbF (by omega)] at H
      exact H
    · have c4 := zb1.mp c4
      intro b5 b5'
      intro b6 b6'
      refine ⟨fun c7 => ?_, fun c7 => ?_⟩
      · skip
        rw [zbF (by omega)] at H
        exact H
      · skip
        rw [zbT (by omega)] at H
        exact H
theorem q_129 {h : zH} {Q : Option Value → zH → Prop} (a1 : Int32) (H : Q (some (.int (zbo ((h.1 59 a1.toInt.toNat).toInt < 0)))) h) : zqm 129 [.ref 58, .int a1] h Q := by
  refine s_129 a1 ?_
  intro b1 b1'
  refine ⟨fun c2 => ?_, fun c2 => ?_⟩
  · skip
    rw [zbF (by omega)] at H
    exact H
  · skip
    rw [zbT (by omega)] at H
    exact H
theorem q_132 {h : zH} {Q : Option Value → zH → Prop} (a1 : Int32) (a2 : Int32) (a3 : Int32) (ht : (h.1 60 a1.toInt.toNat).toInt ≤ 40) (H : Q (some (.int (zbo (0 ≤ a2.toInt ∧ 0 ≤ a3.toInt ∧ a2.toInt ≤ (h.1 60 a1.toInt.toNat).toInt ∧ a3.toInt ≤ (h.1 60 a1.toInt.toNat).toInt - a2.toInt)))) h) : zqm 132 [.ref 58, .int a1, .int a2, .int a3] h Q := by
  have e1 : 0 ≤ a2.toInt → a2.toInt ≤ (h.1 60 a1.toInt.toNat).toInt → ((h.1 60 a1.toInt.toNat) - a2).toInt = (h.1 60 a1.toInt.toNat).toInt - a2.toInt := fun z1 z2 => wk_sub rfl rfl (by omega) (by omega)
  refine s_132 a1 a2 a3 ?_
  refine ⟨fun c1 => ?_, fun c1 => ?_⟩
  · skip
    rw [zbF (by omega)] at H
    exact H
  · skip
    refine ⟨fun c2 => ?_, fun c2 => ?_⟩
    · skip
      rw [zbF (by omega)] at H
      exact H
    · skip
      intro b3 b3'
      refine ⟨fun c4 => ?_, fun c4 => ?_⟩
      · skip
        rw [zbF (by omega)] at H
        exact H
      · skip
        intro b5 b5'
        refine ⟨fun c6 => ?_, fun c6 => ?_⟩
        · skip
          rw [zbF (by omega)] at H
          exact H
        · skip
          rw [zbT (by omega)] at H
          exact H
def lowA (l v : Int32) : Int32 := if l.toInt = 0 then v.toInt8.toInt32 else if l.toInt = 1 then v.toInt16.toInt32 else v
theorem q_78 {h : zH} {Q : Option Value → zH → Prop} (a0 : Int32) (a1 : Int32) (H : Q (some (.int (lowA a0 a1))) h) : zqm 78 [.int a0, .int a1] h Q := by
  refine s_78 a0 a1 ?_
  refine ⟨fun c1 => ?_, fun c1 => ?_⟩
  · skip
    refine ⟨fun c2 => ?_, fun c2 => ?_⟩
    · skip
      unfold lowA at H
      repeat' split at H
      all_goals first | exact H | (exfalso; omega)
    · skip
      unfold lowA at H
      repeat' split at H
      all_goals first | exact H | (exfalso; omega)
  · skip
    unfold lowA at H
    repeat' split at H
    all_goals first | exact H | (exfalso; omega)
theorem q_77 {h : zH} {Q : Option Value → zH → Prop} (a1 : Int32) (a2 : Int32) (a3 : Int32) (ht : hTy h) (i0 : (0 ≤ a1.toInt ∧ a1.toInt < 8) ∧ 0 ≤ a2.toInt ∧ a2.toInt < (h.1 12 a1.toInt.toNat).toInt) (H : Q (some (.int (lowA (h.1 11 a1.toInt.toNat) a3))) (zSet h (3 + a1.toInt.toNat) a2.toInt.toNat (lowA (h.1 11 a1.toInt.toNat) a3))) : zqm 77 [.ref 1, .int a1, .int a2, .int a3] h Q := by
  have hle := tLe ht a1.toInt.toNat
  refine s_77 a1 a2 a3 ?_
  have z1_3 : ((Int32.ofInt 1)).toInt = 1 := by decide
  refine q_71 a1 a2 (Int32.ofInt 1) (tLe ht _) ?_
  refine zri_int ?_
  refine ⟨fun c2 => ?_, fun c2 => ?_⟩
  · have c2 := zb1.mp c2
    intro b3 b3'
    intro b4 b4'
    refine q_78 (h.1 11 a1.toInt.toNat) a3 ?_
    refine zri_int ?_
    intro b6 b6'
    intro b7 b7'
    intro b8 b8'
    rw [sg1, if_pos rfl, if_pos rfl]
    exact H
  · have c2 := zb2.mp c2
    exfalso
    omega
theorem q_75 {h : zH} {Q : Option Value → zH → Prop} (a1 : Int32) (i0 : (0 ≤ a1.toInt ∧ a1.toInt < 8) ∧ 0 ≤ (h.1 12 a1.toInt.toNat).toInt) (H : Q (some (.int (h.1 12 a1.toInt.toNat))) (zSet h 12 a1.toInt.toNat (Int32.ofInt (-1)))) : zqm 75 [.ref 1, .int a1] h Q := by
  refine s_75 a1 ?_
  refine q_70 a1 ?_
  refine zri_int ?_
  refine ⟨fun c2 => ?_, fun c2 => ?_⟩
  · have c2 := zb0.mp c2
    intro b3 b3'
    intro b4 b4'
    exact H
  · have c2 := zb1.mp c2
    exfalso
    omega
theorem q_79 {h : zH} {Q : Option Value → zH → Prop} (a1 : Int32) (a2 : Int32) (a3 : Int32) (a4 : Int32) (a5 : Int32) (ht : hTy h) (i0 : (0 ≤ a1.toInt ∧ a1.toInt < 8) ∧ (0 ≤ a3.toInt ∧ a3.toInt < 8) ∧ 0 ≤ a2.toInt ∧ 0 ≤ a4.toInt ∧ 0 ≤ a5.toInt ∧ a2.toInt + a5.toInt ≤ (h.1 12 a1.toInt.toNat).toInt ∧ a4.toInt + a5.toInt ≤ (h.1 12 a3.toInt.toNat).toInt) (H : Q none (zCpy h (3 + a1.toInt.toNat) (3 + a3.toInt.toNat) a2.toInt.toNat a4.toInt.toNat a5.toInt.toNat)) : zqm 79 [.ref 1, .int a1, .int a2, .int a3, .int a4, .int a5] h Q := by
  refine s_79 a1 a2 a3 a4 a5 ?_
  refine q_71 a1 a2 a5 (tLe ht _) ?_
  refine zri_int ?_
  refine ⟨fun c2 => ?_, fun c2 => ?_⟩
  · have c2 := zb0.mp c2
    exfalso
    omega
  · have c2 := zb1.mp c2
    refine q_71 a3 a4 a5 (tLe ht _) ?_
    refine zri_int ?_
    refine ⟨fun c4 => ?_, fun c4 => ?_⟩
    · have c4 := zb0.mp c4
      exfalso
      omega
    · have c4 := zb1.mp c4
      intro b5 b5'
      intro b6 b6'
      intro b7 b7' b7'' b7''' b7''''
      exact H
theorem q_116 {h : zH} {Q : Option Value → zH → Prop} (a1 : Int32) (a2 : Int32) (a3 : Int32) (ht : hTy h) (k1 : ¬ (0 ≤ a1.toInt ∧ a1.toInt < 8) ∨ (h.1 12 a1.toInt.toNat).toInt < 0 → Q (some (.int ((-1000010 : Int32) - (Int32.ofInt 1)))) (zSet h 0 11 (Int32.ofInt 1))) (k2 : (0 ≤ a1.toInt ∧ a1.toInt < 8) ∧ 0 ≤ (h.1 12 a1.toInt.toNat).toInt ∧ 0 ≤ a2.toInt ∧ 0 ≤ a3.toInt ∧ a2.toInt ≤ (h.1 12 a1.toInt.toNat).toInt ∧ a3.toInt ≤ (h.1 12 a1.toInt.toNat).toInt - a2.toInt → Q (some (.int (Int32.ofInt 0))) h) (k3 : (0 ≤ a1.toInt ∧ a1.toInt < 8) ∧ 0 ≤ (h.1 12 a1.toInt.toNat).toInt ∧ ¬ (0 ≤ a2.toInt ∧ 0 ≤ a3.toInt ∧ a2.toInt ≤ (h.1 12 a1.toInt.toNat).toInt ∧ a3.toInt ≤ (h.1 12 a1.toInt.toNat).toInt - a2.toInt) → Q (some (.int ((-1000010 : Int32) - (Int32.ofInt 2)))) (zSet h 0 11 (Int32.ofInt 2))) : zqm 116 [.ref 0, .int a1, .int a2, .int a3] h Q := by
  refine s_116 a1 a2 a3 ?_
  refine q_70 a1 ?_
  refine zri_int ?_
  refine ⟨fun c2 => ?_, fun c2 => ?_⟩
  · have c2 := zb0.mp c2
    refine q_71 a1 a2 a3 (tLe ht _) ?_
    refine zri_int ?_
    refine ⟨fun c4 => ?_, fun c4 => ?_⟩
    · have c4 := zb0.mp c4
      have z5_1 : ((Int32.ofInt 2)).toInt = 2 := by decide
      refine q_114 (Int32.ofInt 2) ?_
      refine zri_int ?_
      first | exact k1 (by omega) | exact k2 (by omega) | exact k3 (by omega)
    · have c4 := zb1.mp c4
      first | exact k1 (by omega) | exact k2 (by omega) | exact k3 (by omega)
  · have c2 := zb1.mp c2
    have z6_1 : ((Int32.ofInt 1)).toInt = 1 := by decide
    refine q_114 (Int32.ofInt 1) ?_
    refine zri_int ?_
    first | exact k1 (by omega) | exact k2 (by omega) | exact k3 (by omega)
theorem l_74 (r l N : Int32) (g : zH) {Q : Option Value → zH → Prop} (k : ∀ h', (∀ q, q ≠ 3 + r.toInt.toNat → h'.1 q = g.1 q) → (∀ i : Nat, (i : Int) < N.toInt → h'.1 (3 + r.toInt.toNat) i = Int32.ofInt 0) → Q none h') : ∀ (n : Nat) (x : Int32) (h : zH), 0 ≤ x.toInt → (∀ q, q ≠ 3 + r.toInt.toNat → h.1 q = g.1 q) → (∀ i : Nat, (i : Int) < x.toInt → h.1 (3 + r.toInt.toNat) i = Int32.ofInt 0) → zQ n 74 35 [some (.ref 1), some (.int r), some (.int l), some (.int N), some (.int x)] [] h Q
  | 0, _, _, _, _, _ => zQ_zero
  | n + 1, x, h, x0, h1, h2 => by
    refine s_74_35 r l N x ⟨fun c => ?_, fun c => ?_⟩
    · exact k h h1 (fun i hi => h2 i (by omega))
    · intro b1 b2 b3 b4
      have e := ai (x := x) (k := 1) (by omega) (by omega) (by omega) (by omega)
      refine l_74 r l N g k n _ _ (by omega) (fun q hq => ?_) (fun i hi => ?_)
      · rw [← h1 q hq]
        funext j
        rw [sg1, if_neg hq]
      · rw [sg1, if_pos rfl]
        by_cases hi2 : i = x.toInt.toNat
        · rw [if_pos hi2]
        · rw [if_neg hi2]
          exact h2 i (by omega)
def mkP (h : zH) (r l n : Int32) (h' : zH) : Prop := (∀ q, q ≠ 3 + r.toInt.toNat → h'.1 q = (zSet (zSet h 11 r.toInt.toNat l) 12 r.toInt.toNat n).1 q) ∧ ∀ i : Nat, (i : Int) < n.toInt → h'.1 (3 + r.toInt.toNat) i = Int32.ofInt 0
theorem q_74 {h : zH} {Q : Option Value → zH → Prop} (a1 : Int32) (a2 : Int32) (a3 : Int32) (i0 : (0 ≤ a1.toInt ∧ a1.toInt < 8) ∧ 0 ≤ a3.toInt ∧ a3.toInt ≤ 40) (k : ∀ h', mkP h a1 a2 a3 h' → Q none h') : zqm 74 [.ref 1, .int a1, .int a2, .int a3] h Q := by
  refine s_74 a1 a2 a3 ?_
  intro n
  refine q_68 a1 ?_
  refine zri_int ?_
  refine ⟨fun c2 => ?_, fun c2 => ?_⟩
  · have c2 := zb0.mp c2
    exfalso
    omega
  · have c2 := zb1.mp c2
    refine ⟨fun c3 => ?_, fun c3 => ?_⟩
    · skip
      exfalso
      omega
    · skip
      refine ⟨fun c4 => ?_, fun c4 => ?_⟩
      · skip
        intro b5 b5'
        intro b6 b6'
        exact l_74 a1 a2 a3 _ (fun h' p1 p2 => k h' ⟨p1, p2⟩) n _ _ (by rw [kc_0]; omega) (fun _ _ => rfl) (fun i hi => by rw [kc_0] at hi; omega)
      · skip
        exfalso
        omega
theorem q_80 {h : zH} {Q : Option Value → zH → Prop} (a1 : Int32) (a2 : Int32) (a3 : Int32) (k1 : ¬ ((0 ≤ a1.toInt ∧ a1.toInt < 8) ∧ (0 ≤ a2.toInt ∧ a2.toInt < 3) ∧ a3.toInt ≤ 40) → Q (some (.int (-1000001 : Int32))) h) (k2 : (0 ≤ a1.toInt ∧ a1.toInt < 8) ∧ (0 ≤ a2.toInt ∧ a2.toInt < 3) ∧ a3.toInt < 0 → Q (some (.int ((-1000010 : Int32) - (Int32.ofInt 4)))) (zSet h 0 11 (Int32.ofInt 4))) (k3 : (0 ≤ a1.toInt ∧ a1.toInt < 8) ∧ (0 ≤ a2.toInt ∧ a2.toInt < 3) ∧ 0 ≤ a3.toInt ∧ a3.toInt ≤ 40 → ∀ h', mkP h a1 a2 a3 h' → Q (some (.int a3)) (zSet h' 0 11 (Int32.ofInt 0))) : zqm 80 [.ref 0, .int a1, .int a2, .int a3] h Q := by
  refine s_80 a1 a2 a3 ?_
  refine q_68 a1 ?_
  refine zri_int ?_
  refine ⟨fun c2 => ?_, fun c2 => ?_⟩
  · have c2 := zb0.mp c2
    first | exact k1 (by omega) | exact k2 (by omega) | exact k3 (by omega) _ hp
  · have c2 := zb1.mp c2
    refine q_69 a2 ?_
    refine zri_int ?_
    refine ⟨fun c4 => ?_, fun c4 => ?_⟩
    · have c4 := zb0.mp c4
      first | exact k1 (by omega) | exact k2 (by omega) | exact k3 (by omega) _ hp
    · have c4 := zb1.mp c4
      refine ⟨fun c5 => ?_, fun c5 => ?_⟩
      · skip
        refine ⟨fun c6 => ?_, fun c6 => ?_⟩
        · skip
          refine q_74 a1 a2 a3 (by omega) (fun p7 hp => ?_)
          · skip
            refine q_115 a3 ?_
            refine zri_int ?_
            first | exact k1 (by omega) | exact k2 (by omega) | exact k3 (by omega) _ hp
        · skip
          have z9_1 : ((Int32.ofInt 4)).toInt = 4 := by decide
          refine q_114 (Int32.ofInt 4) ?_
          refine zri_int ?_
          first | exact k1 (by omega) | exact k2 (by omega) | exact k3 (by omega) _ hp
      · skip
        first | exact k1 (by omega) | exact k2 (by omega) | exact k3 (by omega) _ hp
theorem q_81 {h : zH} {Q : Option Value → zH → Prop} (a1 : Int32) (a2 : Int32) (a3 : Int32) (ht : hTy h) (k1 : ¬ (0 ≤ a1.toInt ∧ a1.toInt < 8) → Q (some (.int (-1000001 : Int32))) h) (k2 : (0 ≤ a1.toInt ∧ a1.toInt < 8) ∧ (h.1 12 a1.toInt.toNat).toInt < 0 → Q (some (.int ((-1000010 : Int32) - (Int32.ofInt 1)))) (zSet h 0 11 (Int32.ofInt 1))) (k3 : (0 ≤ a1.toInt ∧ a1.toInt < 8) ∧ 0 ≤ (h.1 12 a1.toInt.toNat).toInt ∧ ¬ (0 ≤ a2.toInt ∧ a2.toInt < (h.1 12 a1.toInt.toNat).toInt) → Q (some (.int ((-1000010 : Int32) - (Int32.ofInt 2)))) (zSet h 0 11 (Int32.ofInt 2))) (k4 : (0 ≤ a1.toInt ∧ a1.toInt < 8) ∧ 0 ≤ a2.toInt ∧ a2.toInt < (h.1 12 a1.toInt.toNat).toInt → Q (some (.int (lowA (h.1 11 a1.toInt.toNat) a3))) (zSet (zSet h (3 + a1.toInt.toNat) a2.toInt.toNat (lowA (h.1 11 a1.toInt.toNat) a3)) 0 11 (Int32.ofInt 0))) : zqm 81 [.ref 0, .int a1, .int a2, .int a3] h Q := by
  refine s_81 a1 a2 a3 ?_
  refine q_68 a1 ?_
  refine zri_int ?_
  refine ⟨fun c2 => ?_, fun c2 => ?_⟩
  · have c2 := zb1.mp c2
    have z3_3 : ((Int32.ofInt 1)).toInt = 1 := by decide
    refine q_116 a1 a2 (Int32.ofInt 1) ht (fun p3 => ?_) (fun p3 => ?_) (fun p3 => ?_)
    · refine zri_int ?_
      refine ⟨fun c4 => ?_, fun c4 => ?_⟩
      · have ec4 : (((-1000010 : Int32) - (Int32.ofInt 1))).toInt = -1000011 := by decide
        exfalso
        omega
      · have ec4 : (((-1000010 : Int32) - (Int32.ofInt 1))).toInt = -1000011 := by decide
        skip
        first | exact k1 (by omega) | exact k2 (by omega) | exact k3 (by omega) | exact k4 (by omega)
    · refine zri_int ?_
      refine ⟨fun c5 => ?_, fun c5 => ?_⟩
      · skip
        refine q_77 a1 a2 a3 ht (by omega) ?_
        refine zri_int ?_
        refine q_115 (lowA (h.1 11 a1.toInt.toNat) a3) ?_
        refine zri_int ?_
        first | exact k1 (by omega) | exact k2 (by omega) | exact k3 (by omega) | exact k4 (by omega)
      · have ec5 : ((Int32.ofInt 0)).toInt = 0 := by decide
        exfalso
        omega
    · refine zri_int ?_
      refine ⟨fun c8 => ?_, fun c8 => ?_⟩
      · have ec8 : (((-1000010 : Int32) - (Int32.ofInt 2))).toInt = -1000012 := by decide
        exfalso
        omega
      · have ec8 : (((-1000010 : Int32) - (Int32.ofInt 2))).toInt = -1000012 := by decide
        skip
        first | exact k1 (by omega) | exact k2 (by omega) | exact k3 (by omega) | exact k4 (by omega)
  · have c2 := zb2.mp c2
    first | exact k1 (by omega) | exact k2 (by omega) | exact k3 (by omega) | exact k4 (by omega)
theorem q_82 {h : zH} {Q : Option Value → zH → Prop} (a1 : Int32) (a2 : Int32) (a3 : Int32) (a4 : Int32) (a5 : Int32) (ht : hTy h) (k1 : ¬ ((0 ≤ a1.toInt ∧ a1.toInt < 8) ∧ (0 ≤ a3.toInt ∧ a3.toInt < 8)) → Q (some (.int (-1000001 : Int32))) h) (k2 : ((0 ≤ a1.toInt ∧ a1.toInt < 8) ∧ (0 ≤ a3.toInt ∧ a3.toInt < 8)) ∧ ((h.1 12 a1.toInt.toNat).toInt < 0 ∨ (h.1 12 a3.toInt.toNat).toInt < 0) → Q (some (.int ((-1000010 : Int32) - (Int32.ofInt 1)))) (zSet h 0 11 (Int32.ofInt 1))) (k3 : ((0 ≤ a1.toInt ∧ a1.toInt < 8) ∧ (0 ≤ a3.toInt ∧ a3.toInt < 8)) ∧ ¬ ((h.1 12 a1.toInt.toNat).toInt < 0 ∨ (h.1 12 a3.toInt.toNat).toInt < 0) ∧ ¬ (h.1 11 a1.toInt.toNat).toInt = (h.1 11 a3.toInt.toNat).toInt → Q (some (.int ((-1000010 : Int32) - (Int32.ofInt 5)))) (zSet h 0 11 (Int32.ofInt 5))) (k4 : ((0 ≤ a1.toInt ∧ a1.toInt < 8) ∧ (0 ≤ a3.toInt ∧ a3.toInt < 8)) ∧ ¬ ((h.1 12 a1.toInt.toNat).toInt < 0 ∨ (h.1 12 a3.toInt.toNat).toInt < 0) ∧ (h.1 11 a1.toInt.toNat).toInt = (h.1 11 a3.toInt.toNat).toInt ∧ ¬ ((0 ≤ a2.toInt ∧ 0 ≤ a5.toInt ∧ a2.toInt + a5.toInt ≤ (h.1 12 a1.toInt.toNat).toInt) ∧ (0 ≤ a4.toInt ∧ 0 ≤ a5.toInt ∧ a4.toInt + a5.toInt ≤ (h.1 12 a3.toInt.toNat).toInt)) → Q (some (.int ((-1000010 : Int32) - (Int32.ofInt 2)))) (zSet h 0 11 (Int32.ofInt 2))) (k5 : ((0 ≤ a1.toInt ∧ a1.toInt < 8) ∧ (0 ≤ a3.toInt ∧ a3.toInt < 8)) ∧ ¬ ((h.1 12 a1.toInt.toNat).toInt < 0 ∨ (h.1 12 a3.toInt.toNat).toInt < 0) ∧ (h.1 11 a1.toInt.toNat).toInt = (h.1 11 a3.toInt.toNat).toInt ∧ (0 ≤ a2.toInt ∧ 0 ≤ a5.toInt ∧ a2.toInt + a5.toInt ≤ (h.1 12 a1.toInt.toNat).toInt) ∧ (0 ≤ a4.toInt ∧ 0 ≤ a5.toInt ∧ a4.toInt + a5.toInt ≤ (h.1 12 a3.toInt.toNat).toInt) → Q (some (.int a5)) (zSet (zCpy h (3 + a1.toInt.toNat) (3 + a3.toInt.toNat) a2.toInt.toNat a4.toInt.toNat a5.toInt.toNat) 0 11 (Int32.ofInt 0))) : zqm 82 [.ref 0, .int a1, .int a2, .int a3, .int a4, .int a5] h Q := by
  refine s_82 a1 a2 a3 a4 a5 ?_
  refine q_68 a1 ?_
  refine zri_int ?_
  refine ⟨fun c2 => ?_, fun c2 => ?_⟩
  · have c2 := zb0.mp c2
    first | exact k1 (by omega) | exact k2 (by omega) | exact k3 (by omega) | exact k4 (by omega) | exact k5 (by omega)
  · have c2 := zb1.mp c2
    refine q_68 a3 ?_
    refine zri_int ?_
    refine ⟨fun c4 => ?_, fun c4 => ?_⟩
    · have c4 := zb1.mp c4
      refine q_70 a1 ?_
      refine zri_int ?_
      refine ⟨fun c6 => ?_, fun c6 => ?_⟩
      · have c6 := zb1.mp c6
        have z7_1 : ((Int32.ofInt 1)).toInt = 1 := by decide
        refine q_114 (Int32.ofInt 1) ?_
        refine zri_int ?_
        first | exact k1 (by omega) | exact k2 (by omega) | exact k3 (by omega) | exact k4 (by omega) | exact k5 (by omega)
      · have c6 := zb2.mp c6
        refine q_70 a3 ?_
        refine zri_int ?_
        refine ⟨fun c9 => ?_, fun c9 => ?_⟩
        · have c9 := zb0.mp c9
          refine q_72 a1 a3 ?_
          refine zri_int ?_
          refine ⟨fun c11 => ?_, fun c11 => ?_⟩
          · have c11 := zb1.mp c11
            refine q_71 a1 a2 a5 (tLe ht _) ?_
            refine zri_int ?_
            refine ⟨fun c13 => ?_, fun c13 => ?_⟩
            · have c13 := zb0.mp c13
              have z14_1 : ((Int32.ofInt 2)).toInt = 2 := by decide
              refine q_114 (Int32.ofInt 2) ?_
              refine zri_int ?_
              first | exact k1 (by omega) | exact k2 (by omega) | exact k3 (by omega) | exact k4 (by omega) | exact k5 (by omega)
            · have c13 := zb1.mp c13
              refine q_71 a3 a4 a5 (tLe ht _) ?_
              refine zri_int ?_
              refine ⟨fun c16 => ?_, fun c16 => ?_⟩
              · have c16 := zb1.mp c16
                refine q_79 a1 a2 a3 a4 a5 ht (by omega) ?_
                refine q_115 a5 ?_
                refine zri_int ?_
                first | exact k1 (by omega) | exact k2 (by omega) | exact k3 (by omega) | exact k4 (by omega) | exact k5 (by omega)
              · have c16 := zb2.mp c16
                have z19_1 : ((Int32.ofInt 2)).toInt = 2 := by decide
                refine q_114 (Int32.ofInt 2) ?_
                refine zri_int ?_
                first | exact k1 (by omega) | exact k2 (by omega) | exact k3 (by omega) | exact k4 (by omega) | exact k5 (by omega)
          · have c11 := zb2.mp c11
            have z20_1 : ((Int32.ofInt 5)).toInt = 5 := by decide
            refine q_114 (Int32.ofInt 5) ?_
            refine zri_int ?_
            first | exact k1 (by omega) | exact k2 (by omega) | exact k3 (by omega) | exact k4 (by omega) | exact k5 (by omega)
        · have c9 := zb1.mp c9
          have z21_1 : ((Int32.ofInt 1)).toInt = 1 := by decide
          refine q_114 (Int32.ofInt 1) ?_
          refine zri_int ?_
          first | exact k1 (by omega) | exact k2 (by omega) | exact k3 (by omega) | exact k4 (by omega) | exact k5 (by omega)
    · have c4 := zb2.mp c4
      first | exact k1 (by omega) | exact k2 (by omega) | exact k3 (by omega) | exact k4 (by omega) | exact k5 (by omega)
theorem q_83 {h : zH} {Q : Option Value → zH → Prop} (a1 : Int32) (k1 : ¬ (0 ≤ a1.toInt ∧ a1.toInt < 8) → Q (some (.int (-1000001 : Int32))) h) (k2 : (0 ≤ a1.toInt ∧ a1.toInt < 8) ∧ (h.1 12 a1.toInt.toNat).toInt < 0 → Q (some (.int ((-1000010 : Int32) - (Int32.ofInt 1)))) (zSet h 0 11 (Int32.ofInt 1))) (k3 : (0 ≤ a1.toInt ∧ a1.toInt < 8) ∧ 0 ≤ (h.1 12 a1.toInt.toNat).toInt → Q (some (.int (h.1 12 a1.toInt.toNat))) (zSet (zSet h 12 a1.toInt.toNat (Int32.ofInt (-1))) 0 11 (Int32.ofInt 0))) : zqm 83 [.ref 0, .int a1] h Q := by
  refine s_83 a1 ?_
  refine q_68 a1 ?_
  refine zri_int ?_
  refine ⟨fun c2 => ?_, fun c2 => ?_⟩
  · have c2 := zb1.mp c2
    refine q_70 a1 ?_
    refine zri_int ?_
    refine ⟨fun c4 => ?_, fun c4 => ?_⟩
    · have c4 := zb0.mp c4
      refine q_75 a1 (by omega) ?_
      refine zri_int ?_
      refine q_115 (h.1 12 a1.toInt.toNat) ?_
      refine zri_int ?_
      first | exact k1 (by omega) | exact k2 (by omega) | exact k3 (by omega)
    · have c4 := zb1.mp c4
      have z7_1 : ((Int32.ofInt 1)).toInt = 1 := by decide
      refine q_114 (Int32.ofInt 1) ?_
      refine zri_int ?_
      first | exact k1 (by omega) | exact k2 (by omega) | exact k3 (by omega)
  · have c2 := zb2.mp c2
    first | exact k1 (by omega) | exact k2 (by omega) | exact k3 (by omega)
theorem l_130 (r l N : Int32) (g : zH) (r0 : 0 ≤ r.toInt) (r1 : r.toInt < 8) {Q : Option Value → zH → Prop} (k : ∀ h', (∀ q, q ≠ 61 → h'.1 q = g.1 q) → (∀ j : Nat, h'.1 61 j = if 40 * r.toInt ≤ (j : Int) ∧ (j : Int) < 40 * r.toInt + 40 then Int32.ofInt 0 else g.1 61 j) → Q (some (.int N)) (zSet h' 58 3 (Int32.ofInt 0))) : ∀ (n : Nat) (x : Int32) (h : zH), 0 ≤ x.toInt → x.toInt ≤ 40 → (∀ q, q ≠ 61 → h.1 q = g.1 q) → (∀ j : Nat, h.1 61 j = if 40 * r.toInt ≤ (j : Int) ∧ (j : Int) < 40 * r.toInt + x.toInt then Int32.ofInt 0 else g.1 61 j) → zQ n 130 52 [some (.ref 58), some (.int r), some (.int l), some (.int N), some (.int x)] [] h Q
  | 0, _, _, _, _, _, _ => zQ_zero
  | n + 1, x, h, x0, x1, h1, h2 => by
    refine s_130_52 r l N x ⟨fun c => ?_, fun c => ?_⟩
    · refine q_126 N ?_
      refine zri_int ?_
      refine k h h1 (fun j => ?_)
      have e : x.toInt = 40 := by omega
      rw [h2 j, e]
    · intro b1 b2
      have e := ai (x := x) (k := 1) (by omega) (by omega) (by omega) (by omega)
      have e2 := i40 (r := r) (i := x) r0 r1 x0 (by omega)
      refine l_130 r l N g r0 r1 k n _ _ (by omega) (by omega) (fun q hq => ?_) (fun j => ?_)
      · rw [← h1 q hq]
        funext j
        rw [sg1, if_neg hq]
      · rw [sg1, if_pos rfl, h2 j, e, e2]
        by_cases hj : j = (40 * r.toInt + x.toInt).toNat
        · rw [if_pos hj, if_pos (by omega)]
        · rw [if_neg hj]
          by_cases hc : 40 * r.toInt ≤ (j : Int) ∧ (j : Int) < 40 * r.toInt + x.toInt
          · rw [if_pos hc, if_pos (by omega)]
          · rw [if_neg hc, if_neg (by omega)]
def mkR (h : zH) (r l n : Int32) (h' : zH) : Prop := (∀ q, q ≠ 61 → h'.1 q = (zSet (zSet h 59 r.toInt.toNat l) 60 r.toInt.toNat n).1 q) ∧ ∀ j : Nat, h'.1 61 j = if 40 * r.toInt ≤ (j : Int) ∧ (j : Int) < 40 * r.toInt + 40 then Int32.ofInt 0 else h.1 61 j
theorem q_130 {h : zH} {Q : Option Value → zH → Prop} (a1 : Int32) (a2 : Int32) (a3 : Int32) (k1 : ¬ ((0 ≤ a1.toInt ∧ a1.toInt < 8) ∧ (0 ≤ a2.toInt ∧ a2.toInt < 3) ∧ a3.toInt ≤ 40) → Q (some (.int (-1000001 : Int32))) h) (k2 : (0 ≤ a1.toInt ∧ a1.toInt < 8) ∧ (0 ≤ a2.toInt ∧ a2.toInt < 3) ∧ a3.toInt < 0 → Q (some (.int ((-1000010 : Int32) - (Int32.ofInt 4)))) (zSet h 58 3 (Int32.ofInt 4))) (k3 : (0 ≤ a1.toInt ∧ a1.toInt < 8) ∧ (0 ≤ a2.toInt ∧ a2.toInt < 3) ∧ 0 ≤ a3.toInt ∧ a3.toInt ≤ 40 → ∀ h', mkR h a1 a2 a3 h' → Q (some (.int a3)) (zSet h' 58 3 (Int32.ofInt 0))) : zqm 130 [.ref 58, .int a1, .int a2, .int a3] h Q := by
  refine s_130 a1 a2 a3 ?_
  intro n
  refine q_128 a1 ?_
  refine zri_int ?_
  refine ⟨fun c2 => ?_, fun c2 => ?_⟩
  · have c2 := zb0.mp c2
    first | exact k1 (by omega) | exact k2 (by omega)
  · have c2 := zb1.mp c2
    have z3_1 : ((Int32.ofInt 0)).toInt = 0 := by decide
    have z3_2 : ((Int32.ofInt 2)).toInt = 2 := by decide
    refine q_121 a2 (Int32.ofInt 0) (Int32.ofInt 2) ?_
    refine zri_int ?_
    refine ⟨fun c4 => ?_, fun c4 => ?_⟩
    · have c4 := zb0.mp c4
      first | exact k1 (by omega) | exact k2 (by omega)
    · have c4 := zb1.mp c4
      refine ⟨fun c5 => ?_, fun c5 => ?_⟩
      · skip
        refine ⟨fun c6 => ?_, fun c6 => ?_⟩
        · skip
          intro b7 b7'
          intro b8 b8'
          refine l_130 a1 a2 a3 _ (by omega) (by omega) (fun h' p1 p2 => k3 (by omega) h' ⟨p1, fun j => ?_⟩) n _ _ (by rw [kc_0]; omega) (by rw [kc_0]; omega) (fun _ _ => rfl) (fun j => ?_)
          · rw [p2 j]
            rfl
          · rw [kc_0, if_neg (by omega)]
        · skip
          have z9_1 : ((Int32.ofInt 4)).toInt = 4 := by decide
          refine q_125 (Int32.ofInt 4) ?_
          refine zri_int ?_
          first | exact k1 (by omega) | exact k2 (by omega)
      · skip
        first | exact k1 (by omega) | exact k2 (by omega)
theorem q_131 {h : zH} {Q : Option Value → zH → Prop} (a1 : Int32) (a2 : Int32) (a3 : Int32) (ht : hTy h) (k1 : ¬ (0 ≤ a1.toInt ∧ a1.toInt < 8) → Q (some (.int (-1000001 : Int32))) h) (k2 : (0 ≤ a1.toInt ∧ a1.toInt < 8) ∧ (h.1 59 a1.toInt.toNat).toInt < 0 → Q (some (.int ((-1000010 : Int32) - (Int32.ofInt 1)))) (zSet h 58 3 (Int32.ofInt 1))) (k3 : (0 ≤ a1.toInt ∧ a1.toInt < 8) ∧ 0 ≤ (h.1 59 a1.toInt.toNat).toInt ∧ ¬ (0 ≤ a2.toInt ∧ a2.toInt < (h.1 60 a1.toInt.toNat).toInt) → Q (some (.int ((-1000010 : Int32) - (Int32.ofInt 2)))) (zSet h 58 3 (Int32.ofInt 2))) (k4 : (0 ≤ a1.toInt ∧ a1.toInt < 8) ∧ 0 ≤ (h.1 59 a1.toInt.toNat).toInt ∧ 0 ≤ a2.toInt ∧ a2.toInt < (h.1 60 a1.toInt.toNat).toInt → Q (some (.int (lowA (h.1 59 a1.toInt.toNat) a3))) (zSet (zSet h 61 (40 * a1.toInt + a2.toInt).toNat (lowA (h.1 59 a1.toInt.toNat) a3)) 58 3 (Int32.ofInt 0))) : zqm 131 [.ref 58, .int a1, .int a2, .int a3] h Q := by
  have hsz := tSz ht a1.toInt.toNat
  have e1 := si (x := h.1 60 a1.toInt.toNat) (k := 1) (by omega) (by omega) (by omega) (by omega)
  refine s_131 a1 a2 a3 ?_
  refine q_128 a1 ?_
  refine zri_int ?_
  refine ⟨fun c2 => ?_, fun c2 => ?_⟩
  · have c2 := zb1.mp c2
    refine q_129 a1 ?_
    refine zri_int ?_
    refine ⟨fun c4 => ?_, fun c4 => ?_⟩
    · have c4 := zb0.mp c4
      intro b5 b5'
      have z6_1 : ((Int32.ofInt 0)).toInt = 0 := by decide
      refine q_121 a2 (Int32.ofInt 0) ((h.1 60 a1.toInt.toNat) - (Int32.ofInt 1)) ?_
      refine zri_int ?_
      refine ⟨fun c7 => ?_, fun c7 => ?_⟩
      · have c7 := zb1.mp c7
        intro b8 b8'
        refine ⟨fun c9 => ?_, fun c9 => ?_⟩
        · skip
          intro b10 b10'
          refine ⟨fun c11 => ?_, fun c11 => ?_⟩
          · skip
            intro b12 b12'
            refine q_126 a3 ?_
            refine zri_int ?_
            have hk := k4 (by omega)
            have e2 := i40 (r := a1) (i := a2) (by omega) (by omega) (by omega) (by omega)
            unfold lowA at hk
            rw [e2]
            repeat' split at hk
            all_goals first | exact hk | (exfalso; omega)
          · skip
            intro b14 b14'
            refine q_126 (a3.toInt16.toInt32) ?_
            refine zri_int ?_
            have hk := k4 (by omega)
            have e2 := i40 (r := a1) (i := a2) (by omega) (by omega) (by omega) (by omega)
            unfold lowA at hk
            rw [e2]
            repeat' split at hk
            all_goals first | exact hk | (exfalso; omega)
        · skip
          intro b16 b16'
          refine q_126 (a3.toInt8.toInt32) ?_
          refine zri_int ?_
          have hk := k4 (by omega)
          have e2 := i40 (r := a1) (i := a2) (by omega) (by omega) (by omega) (by omega)
          unfold lowA at hk
          rw [e2]
          repeat' split at hk
          all_goals first | exact hk | (exfalso; omega)
      · have c7 := zb2.mp c7
        have z18_1 : ((Int32.ofInt 2)).toInt = 2 := by decide
        refine q_125 (Int32.ofInt 2) ?_
        refine zri_int ?_
        first | exact k1 (by omega) | exact k2 (by omega) | exact k3 (by omega)
    · have c4 := zb1.mp c4
      have z19_1 : ((Int32.ofInt 1)).toInt = 1 := by decide
      refine q_125 (Int32.ofInt 1) ?_
      refine zri_int ?_
      first | exact k1 (by omega) | exact k2 (by omega) | exact k3 (by omega)
  · have c2 := zb2.mp c2
    first | exact k1 (by omega) | exact k2 (by omega) | exact k3 (by omega)
theorem q_134 {h : zH} {Q : Option Value → zH → Prop} (a1 : Int32) (k1 : ¬ (0 ≤ a1.toInt ∧ a1.toInt < 8) → Q (some (.int (-1000001 : Int32))) h) (k2 : (0 ≤ a1.toInt ∧ a1.toInt < 8) ∧ (h.1 59 a1.toInt.toNat).toInt < 0 → Q (some (.int ((-1000010 : Int32) - (Int32.ofInt 1)))) (zSet h 58 3 (Int32.ofInt 1))) (k3 : (0 ≤ a1.toInt ∧ a1.toInt < 8) ∧ 0 ≤ (h.1 59 a1.toInt.toNat).toInt → Q (some (.int (h.1 60 a1.toInt.toNat))) (zSet (zSet h 59 a1.toInt.toNat (Int32.ofInt (-1))) 58 3 (Int32.ofInt 0))) : zqm 134 [.ref 58, .int a1] h Q := by
  refine s_134 a1 ?_
  refine q_128 a1 ?_
  refine zri_int ?_
  refine ⟨fun c2 => ?_, fun c2 => ?_⟩
  · have c2 := zb1.mp c2
    refine q_129 a1 ?_
    refine zri_int ?_
    refine ⟨fun c4 => ?_, fun c4 => ?_⟩
    · have c4 := zb0.mp c4
      intro b5 b5'
      intro b6 b6'
      refine q_126 (h.1 60 a1.toInt.toNat) ?_
      refine zri_int ?_
      first | exact k1 (by omega) | exact k2 (by omega) | exact k3 (by omega)
    · have c4 := zb1.mp c4
      have z8_1 : ((Int32.ofInt 1)).toInt = 1 := by decide
      refine q_125 (Int32.ofInt 1) ?_
      refine zri_int ?_
      first | exact k1 (by omega) | exact k2 (by omega) | exact k3 (by omega)
  · have c2 := zb2.mp c2
    first | exact k1 (by omega) | exact k2 (by omega) | exact k3 (by omega)
theorem l_133 (x1 x2 x3 x4 x5 x6 x7 : Int32) (f t N : Nat) (e5 : x5.toInt = (N : Int)) (e6 : x6.toInt = (f : Int)) (e7 : x7.toInt = (t : Int)) (hf : f + N ≤ 320) (ht : t + N ≤ 320) (g : zH) {Q : Option Value → zH → Prop} (k : ∀ h', (∀ q, q ≠ 61 → h'.1 q = g.1 q) → (∀ j : Nat, h'.1 61 j = if t ≤ j ∧ j < t + N then g.1 61 (f + (j - t)) else g.1 61 j) → Q (some (.int x5)) (zSet h' 58 3 (Int32.ofInt 0))) : ∀ (n K : Nat) (x8 : Int32) (o9 : Option Value) (h : zH), x8.toInt = (K : Int) → K ≤ N → (∀ q, q ≠ 61 → h.1 q = g.1 q) → (∀ j : Nat, h.1 61 j = if (t ≤ f ∧ t ≤ j ∧ j < t + K) ∨ (f < t ∧ t + N ≤ j + K ∧ j < t + N) then g.1 61 (f + (j - t)) else g.1 61 j) → zQ n 133 109 [some (.ref 58), some (.int x1), some (.int x2), some (.int x3), some (.int x4), some (.int x5), some (.int x6), some (.int x7), some (.int x8), o9] [] h Q
  | 0, _, _, _, _, _, _, _, _ => zQ_zero
  | n + 1, K, x8, o9, h, e8, hK, h1, h2 => by
    refine s_133_109 x1 x2 x3 x4 x5 x6 x7 x8 o9 ⟨fun c => ?_, fun c => ?_⟩
    · refine q_126 x5 ?_
      refine zri_int ?_
      refine k h h1 (fun j => ?_)
      rw [h2 j]
      by_cases hj : t ≤ j ∧ j < t + N
      · rw [if_pos hj, if_pos (by omega)]
      · rw [if_neg hj, if_neg (by omega)]
    · have a8 := ai (x := x8) (k := 1) (by omega) (by omega) (by omega) (by omega)
      refine ⟨fun d => ?_, fun d => ?_⟩
      · have a6 : (x6 + x8).toInt = (f : Int) + K := wk_add e6 e8 (by omega) (by omega)
        have a7 : (x7 + x8).toInt = (t : Int) + K := wk_add e7 e8 (by omega) (by omega)
        intro b1 b2 b3 b4
        refine l_133 x1 x2 x3 x4 x5 x6 x7 f t N e5 e6 e7 hf ht g k n (K + 1) _ _ _ (by omega) (by omega) (fun q hq => ?_) (fun j => ?_)
        · rw [← h1 q hq]
          funext j
          rw [sg1, if_neg hq]
        · rw [sg1, if_pos rfl, a6, a7]
          have r1 : ((f : Int) + K).toNat = f + K := by omega
          have r2 : ((t : Int) + K).toNat = t + K := by omega
          rw [r1, r2]
          by_cases hj : j = t + K
          · rw [if_pos hj, if_pos (by omega), h2 (f + K), if_neg (by omega)]
            exact congrArg (g.1 61) (by omega)
          · rw [if_neg hj, h2 j]
            by_cases hc : (t ≤ f ∧ t ≤ j ∧ j < t + K) ∨ (f < t ∧ t + N ≤ j + K ∧ j < t + N)
            · rw [if_pos hc, if_pos (by omega)]
            · rw [if_neg hc, if_neg (by omega)]
      · have a5 := si (x := x5) (k := 1) (by omega) (by omega) (by omega) (by omega)
        have a5' : ((x5 - Int32.ofInt 1) - x8).toInt = (N : Int) - 1 - K := by rw [wk_sub a5 e8 (by omega) (by omega), e5]
        have a6 : (x6 + ((x5 - Int32.ofInt 1) - x8)).toInt = (f : Int) + (N - 1 - K) := wk_add e6 a5' (by omega) (by omega)
        have a7 : (x7 + ((x5 - Int32.ofInt 1) - x8)).toInt = (t : Int) + (N - 1 - K) := wk_add e7 a5' (by omega) (by omega)
        intro b1 b2 b3 b4
        refine l_133 x1 x2 x3 x4 x5 x6 x7 f t N e5 e6 e7 hf ht g k n (K + 1) _ _ _ (by omega) (by omega) (fun q hq => ?_) (fun j => ?_)
        · rw [← h1 q hq]
          funext j
          rw [sg1, if_neg hq]
        · rw [sg1, if_pos rfl, a6, a7]
          have r1 : ((f : Int) + (N - 1 - K)).toNat = f + (N - 1 - K) := by omega
          have r2 : ((t : Int) + (N - 1 - K)).toNat = t + (N - 1 - K) := by omega
          rw [r1, r2]
          by_cases hj : j = t + (N - 1 - K)
          · rw [if_pos hj, if_pos (by omega), h2 (f + (N - 1 - K)), if_neg (by omega)]
            exact congrArg (g.1 61) (by omega)
          · rw [if_neg hj, h2 j]
            by_cases hc : (t ≤ f ∧ t ≤ j ∧ j < t + K) ∨ (f < t ∧ t + N ≤ j + K ∧ j < t + N)
            · rw [if_pos hc, if_pos (by omega)]
            · rw [if_neg hc, if_neg (by omega)]
def cpR (h : zH) (a i b j n : Int32) (h' : zH) : Prop := (∀ q, q ≠ 61 → h'.1 q = h.1 q) ∧ ∀ l : Nat, h'.1 61 l = if (40 * b.toInt + j.toInt).toNat ≤ l ∧ l < (40 * b.toInt + j.toInt).toNat + n.toInt.toNat then h.1 61 ((40 * a.toInt + i.toInt).toNat + (l - (40 * b.toInt + j.toInt).toNat)) else h.1 61 l
theorem q_133 {h : zH} {Q : Option Value → zH → Prop} (a1 : Int32) (a2 : Int32) (a3 : Int32) (a4 : Int32) (a5 : Int32) (ht : hTy h) (k1 : ¬ ((0 ≤ a1.toInt ∧ a1.toInt < 8) ∧ (0 ≤ a3.toInt ∧ a3.toInt < 8)) → Q (some (.int (-1000001 : Int32))) h) (k2 : ((0 ≤ a1.toInt ∧ a1.toInt < 8) ∧ (0 ≤ a3.toInt ∧ a3.toInt < 8)) ∧ ((h.1 59 a1.toInt.toNat).toInt < 0 ∨ (h.1 59 a3.toInt.toNat).toInt < 0) → Q (some (.int ((-1000010 : Int32) - (Int32.ofInt 1)))) (zSet h 58 3 (Int32.ofInt 1))) (k3 : ((0 ≤ a1.toInt ∧ a1.toInt < 8) ∧ (0 ≤ a3.toInt ∧ a3.toInt < 8)) ∧ ¬ ((h.1 59 a1.toInt.toNat).toInt < 0 ∨ (h.1 59 a3.toInt.toNat).toInt < 0) ∧ ¬ (h.1 59 a1.toInt.toNat).toInt = (h.1 59 a3.toInt.toNat).toInt → Q (some (.int ((-1000010 : Int32) - (Int32.ofInt 5)))) (zSet h 58 3 (Int32.ofInt 5))) (k4 : ((0 ≤ a1.toInt ∧ a1.toInt < 8) ∧ (0 ≤ a3.toInt ∧ a3.toInt < 8)) ∧ ¬ ((h.1 59 a1.toInt.toNat).toInt < 0 ∨ (h.1 59 a3.toInt.toNat).toInt < 0) ∧ (h.1 59 a1.toInt.toNat).toInt = (h.1 59 a3.toInt.toNat).toInt ∧ ¬ ((0 ≤ a2.toInt ∧ 0 ≤ a5.toInt ∧ a2.toInt + a5.toInt ≤ (h.1 60 a1.toInt.toNat).toInt) ∧ (0 ≤ a4.toInt ∧ 0 ≤ a5.toInt ∧ a4.toInt + a5.toInt ≤ (h.1 60 a3.toInt.toNat).toInt)) → Q (some (.int ((-1000010 : Int32) - (Int32.ofInt 2)))) (zSet h 58 3 (Int32.ofInt 2))) (k5 : ((0 ≤ a1.toInt ∧ a1.toInt < 8) ∧ (0 ≤ a3.toInt ∧ a3.toInt < 8)) ∧ ¬ ((h.1 59 a1.toInt.toNat).toInt < 0 ∨ (h.1 59 a3.toInt.toNat).toInt < 0) ∧ (h.1 59 a1.toInt.toNat).toInt = (h.1 59 a3.toInt.toNat).toInt ∧ (0 ≤ a2.toInt ∧ 0 ≤ a5.toInt ∧ a2.toInt + a5.toInt ≤ (h.1 60 a1.toInt.toNat).toInt) ∧ (0 ≤ a4.toInt ∧ 0 ≤ a5.toInt ∧ a4.toInt + a5.toInt ≤ (h.1 60 a3.toInt.toNat).toInt) → ∀ h', cpR h a1 a2 a3 a4 a5 h' → Q (some (.int a5)) (zSet h' 58 3 (Int32.ofInt 0))) : zqm 133 [.ref 58, .int a1, .int a2, .int a3, .int a4, .int a5] h Q := by
  have hs1 := tSz ht a1.toInt.toNat
  have hs3 := tSz ht a3.toInt.toNat
  refine s_133 a1 a2 a3 a4 a5 ?_
  intro n
  refine q_128 a1 ?_
  refine zri_int ?_
  refine ⟨fun c2 => ?_, fun c2 => ?_⟩
  · have c2 := zb0.mp c2
    first | exact k1 (by omega) | exact k2 (by omega) | exact k3 (by omega) | exact k4 (by omega)
  · have c2 := zb1.mp c2
    refine q_128 a3 ?_
    refine zri_int ?_
    refine ⟨fun c4 => ?_, fun c4 => ?_⟩
    · have c4 := zb1.mp c4
      refine q_129 a1 ?_
      refine zri_int ?_
      refine ⟨fun c6 => ?_, fun c6 => ?_⟩
      · have c6 := zb1.mp c6
        have z7_1 : ((Int32.ofInt 1)).toInt = 1 := by decide
        refine q_125 (Int32.ofInt 1) ?_
        refine zri_int ?_
        first | exact k1 (by omega) | exact k2 (by omega) | exact k3 (by omega) | exact k4 (by omega)
      · have c6 := zb2.mp c6
        refine q_129 a3 ?_
        refine zri_int ?_
        refine ⟨fun c9 => ?_, fun c9 => ?_⟩
        · have c9 := zb0.mp c9
          intro b10 b10'
          intro b11 b11'
          refine ⟨fun c12 => ?_, fun c12 => ?_⟩
          · skip
            refine q_132 a1 a2 a5 (tSz ht _).2 ?_
            refine zri_int ?_
            refine ⟨fun c14 => ?_, fun c14 => ?_⟩
            · have c14 := zb0.mp c14
              have z15_1 : ((Int32.ofInt 2)).toInt = 2 := by decide
              refine q_125 (Int32.ofInt 2) ?_
              refine zri_int ?_
              first | exact k1 (by omega) | exact k2 (by omega) | exact k3 (by omega) | exact k4 (by omega)
            · have c14 := zb1.mp c14
              refine q_132 a3 a4 a5 (tSz ht _).2 ?_
              refine zri_int ?_
              refine ⟨fun c17 => ?_, fun c17 => ?_⟩
              · have c17 := zb1.mp c17
                have y1 := i40 (r := a1) (i := a2) (by omega) (by omega) (by omega) (by omega)
                have y3 := i40 (r := a3) (i := a4) (by omega) (by omega) (by omega) (by omega)
                exact l_133 a1 a2 a3 a4 a5 _ _ (40 * a1.toInt + a2.toInt).toNat (40 * a3.toInt + a4.toInt).toNat a5.toInt.toNat (by omega) (by rw [y1]; omega) (by rw [y3]; omega) (by omega) (by omega) h (fun h' p1 p2 => k5 (by omega) h' ⟨p1, p2⟩) n 0 _ _ _ (by rw [kc_0]; rfl) (by omega) (fun _ _ => rfl) (fun j => by rw [if_neg (by omega)])
              · have c17 := zb2.mp c17
                have z18_1 : ((Int32.ofInt 2)).toInt = 2 := by decide
                refine q_125 (Int32.ofInt 2) ?_
                refine zri_int ?_
                first | exact k1 (by omega) | exact k2 (by omega) | exact k3 (by omega) | exact k4 (by omega)
          · skip
            have z19_1 : ((Int32.ofInt 5)).toInt = 5 := by decide
            refine q_125 (Int32.ofInt 5) ?_
            refine zri_int ?_
            first | exact k1 (by omega) | exact k2 (by omega) | exact k3 (by omega) | exact k4 (by omega)
        · have c9 := zb1.mp c9
          have z20_1 : ((Int32.ofInt 1)).toInt = 1 := by decide
          refine q_125 (Int32.ofInt 1) ?_
          refine zri_int ?_
          first | exact k1 (by omega) | exact k2 (by omega) | exact k3 (by omega) | exact k4 (by omega)
    · have c4 := zb2.mp c4
      first | exact k1 (by omega) | exact k2 (by omega) | exact k3 (by omega) | exact k4 (by omega)

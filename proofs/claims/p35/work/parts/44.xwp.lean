/-! what divides both -/
theorem div_n {a b : Nat} : ((a : Int)).tdiv (b : Int) = ((a / b : Nat) : Int) := rfl
theorem rem32 {x y : Int32} {a b : Nat} (ex : x.toInt = (a : Int)) (ey : y.toInt = (b : Int)) : (x - x / y * y).toInt = ((a % b : Nat) : Int) := by
  have ha := x.toInt_lt
  have ed : (x / y).toInt = ((a / b : Nat) : Int) := by
    rw [Jvm.Kit.i32_div (by omega), ex, ey]
    exact div_n
  have dm := Nat.div_add_mod' a b
  have em : ((a / b : Nat) : Int) * (b : Int) = ((a / b * b : Nat) : Int) := (Int.natCast_mul _ _).symm
  have e2 := wk_mul ed ey (by rw [em]; omega) (by rw [em]; omega)
  rw [em] at e2
  rw [wk_sub ex e2 (by omega) (by omega)]
  omega
theorem rem64 {x y : Int64} {a b : Nat} (ex : x.toInt = (a : Int)) (ey : y.toInt = (b : Int)) : (x - x / y * y).toInt = ((a % b : Nat) : Int) := by
  have ha := x.toInt_lt
  have ed : (x / y).toInt = ((a / b : Nat) : Int) := by
    rw [Jvm.Kit.i64_div (by omega), ex, ey]
    exact div_n
  have dm := Nat.div_add_mod' a b
  have em : ((a / b : Nat) : Int) * (b : Int) = ((a / b * b : Nat) : Int) := (Int.natCast_mul _ _).symm
  have e2 : (x / y * y).toInt = ((a / b * b : Nat) : Int) := by
    rw [Jvm.Kit.i64_mul (by rw [ed, ey, em]; omega) (by rw [ed, ey, em]; omega), ed, ey, em]
  rw [Jvm.Kit.i64_sub (by rw [ex, e2]; omega) (by rw [ex, e2]; omega), ex, e2]
  omega
theorem l_39 {h : zH} {Q : Option Value → zH → Prop} (x0 x1 : Int32) (g : Nat) (H : ∀ v : Int32, v.toInt = (g : Int) → Q (some (.int v)) h) : ∀ (n t a b : Nat) (x2 x3 x4 : Int32) (o5 : Option Value), x2.toInt = (a : Int) → x3.toInt = (b : Int) → x4.toInt = (t : Int) → t ≤ 100 → b ≤ a → b * a < 2 ^ (100 - t) → Nat.gcd a b = g → zQ n 39 7 [some (.int x0), some (.int x1), some (.int x2), some (.int x3), some (.int x4), o5] [] h Q
  | 0, _, _, _, _, _, _, _, _, _, _, _, _, _, _ => zQ_zero
  | n + 1, t, a, b, x2, x3, x4, o5, e2, e3, e4, ht, hba, hp, hg => by
    have ex : b = 0 → Q (some (.int x2)) h := fun z => by
      subst z
      rw [Nat.gcd_zero_right] at hg
      subst hg
      exact H x2 e2
    refine s_39_7 x0 x1 x2 x3 x4 o5 ⟨fun d => ex ?_, fun d => ⟨fun z => ex (by omega), fun z _ => ?_⟩⟩
    · have : t = 100 := by omega
      subst this
      apply Decidable.byContradiction
      intro hb
      have : 1 * 1 ≤ b * a := Nat.mul_le_mul (by omega) (by omega)
      have hp : b * a < 1 := hp
      omega
    · have e4' := ai (x := x4) (k := 1) (by omega) (by omega) (by omega) (by omega)
      have b0 : 0 < b := by omega
      have ml := Nat.mod_lt a b0
      have m2 : a % b + b ≤ a := by
        have e := Nat.mod_eq_sub_mod hba
        have l := Nat.mod_le (a - b) b
        omega
      have m3 : b * (2 * (a % b)) ≤ b * a := Nat.mul_le_mul_left b (by omega)
      have m4 : b * (2 * (a % b)) = 2 * ((a % b) * b) := by
        rw [Nat.mul_left_comm, Nat.mul_comm b (a % b)]
      have m5 : 2 ^ (100 - t) = 2 * 2 ^ (100 - (t + 1)) := by
        rw [show 100 - t = (100 - (t + 1)) + 1 by omega, Nat.pow_succ, Nat.mul_comm]
      refine l_39 x0 x1 g H n (t + 1) b (a % b) _ _ _ _ e3 (rem32 e2 e3) (by omega) (by omega) (by omega) (by omega) ?_
      rw [← hg, Nat.gcd_comm a b, Nat.gcd_rec b a, Nat.gcd_comm]
theorem pw99 {a b : Nat} (ha : a ≤ 10000000) (hb : b ≤ 10000000) : b * a < 2 ^ 99 := Nat.lt_of_le_of_lt (Nat.mul_le_mul hb ha) (by decide)
theorem q_39 {h : zH} {Q : Option Value → zH → Prop} (a0 a1 : Int32) (a b : Nat) (e0 : a0.toInt = (a : Int)) (e1 : a1.toInt = (b : Int)) (ha : a ≤ 10000000) (hb : b ≤ 10000000) (H : ∀ v : Int32, v.toInt = ((Nat.gcd a b : Nat) : Int) → Q (some (.int v)) h) : zqm 39 [.int a0, .int a1] h Q := by
  refine s_39 a0 a1 (fun n => ?_)
  have p := pw99 ha hb
  have p2 : 2 ^ 100 = 2 * 2 ^ 99 := by decide
  by_cases z : b ≤ a
  · exact l_39 a0 a1 _ H n 0 a b _ _ _ _ e0 e1 kc_0 (by omega) z (by show b * a < 2 ^ 100; omega) rfl
  · cases n with
    | zero => exact zQ_zero
    | succ n =>
      refine s_39_7 a0 a1 a0 a1 _ _ ⟨fun d => absurd d (by decide), fun _ => ⟨fun y => by exfalso; omega, fun y _ => ?_⟩⟩
      refine l_39 a0 a1 _ H n 1 b (a % b) _ _ _ _ e1 (rem32 e0 e1) (by decide) (by omega) (by have := Nat.mod_lt a (show 0 < b by omega); omega) ?_ ?_
      · rw [Nat.mod_eq_of_lt (by omega), Nat.mul_comm]
        exact p
      · rw [Nat.gcd_comm a b, Nat.gcd_rec b a, Nat.gcd_comm]
theorem lgv (y : Int64) : (0 ≤ (lg_cmp y (Int64.ofNat 0)).toInt ↔ 0 ≤ y.toInt) ∧ ((lg_cmp y (Int64.ofNat 0)).toInt = 0 ↔ y.toInt = 0) := by
  have e0 : (Int64.ofNat 0).toInt = 0 := by decide
  unfold lg_cmp
  by_cases h1 : Int64.ofNat 0 < y
  · have h1' := Int64.lt_iff_toInt_lt.mp h1
    simp only [h1, if_true]
    exact ⟨⟨fun _ => by omega, fun _ => by decide⟩, ⟨fun z => absurd z (by decide), fun z => by omega⟩⟩
  · by_cases h2 : y = Int64.ofNat 0
    · subst h2
      simp only [h1, if_false]
      exact ⟨⟨fun _ => by omega, fun _ => by simp⟩, ⟨fun _ => e0, fun _ => by simp⟩⟩
    · have h3 : y.toInt ≠ 0 := fun z => h2 (Int64.toInt_inj.mp (z.trans e0.symm))
      have h4 : ¬ 0 < y.toInt := fun z => h1 (Int64.lt_iff_toInt_lt.mpr (by omega))
      simp only [h1, h2, if_false]
      exact ⟨⟨fun z => absurd z (by decide), fun z => by omega⟩, ⟨fun z => absurd z (by decide), fun z => absurd z h3⟩⟩
theorem l_194 {h : zH} {Q : Option Value → zH → Prop} (y0 y2 : Int64) (g : Nat) (H : ∀ v : Int64, v.toInt = (g : Int) → Q (some (.long v)) h) : ∀ (n a b : Nat) (y4 y6 : Int64) (o8 : Option Value), y4.toInt = (a : Int) → y6.toInt = (b : Int) → Nat.gcd a b = g → zQ n 194 17 [some (.long y0), none, some (.long y2), none, some (.long y4), none, some (.long y6), none, o8, none] [] h Q
  | 0, _, _, _, _, _, _, _, _ => zQ_zero
  | n + 1, a, b, y4, y6, o8, e4, e6, hg => by
    refine s_194_17 y0 y2 y4 y6 o8 ⟨fun z => ?_, fun z _ => ?_⟩
    · have := (lgv y6).2.mp z
      have : b = 0 := by omega
      subst this
      rw [Nat.gcd_zero_right] at hg
      subst hg
      exact H y4 e4
    · refine l_194 y0 y2 g H n b (a % b) _ _ _ e6 (rem64 e4 e6) ?_
      rw [← hg, Nat.gcd_comm a b, Nat.gcd_rec b a, Nat.gcd_comm]
theorem q_194 {h : zH} {Q : Option Value → zH → Prop} (a0 a1 : Int64) (b : Nat) (r : -1000 ≤ a0.toInt) (e1 : a1.toInt = (b : Int)) (H : ∀ v : Int64, v.toInt = ((Nat.gcd (ab a0.toInt).toNat b : Nat) : Int) → Q (some (.long v)) h) : zqm 194 [.long a0, .long a1] h Q := by
  unfold ab at H
  refine s_194 a0 a1 (fun n => ⟨fun z => ?_, fun z => ?_⟩)
  · have z := (lgv a0).1.mp z
    rw [if_pos z] at H
    exact l_194 a0 a1 _ H n a0.toInt.toNat b _ _ _ (by omega) e1 rfl
  · have z : ¬ 0 ≤ a0.toInt := fun y => z ((lgv a0).1.mpr y)
    rw [if_neg z] at H
    exact l_194 a0 a1 _ H n (-a0.toInt).toNat b _ _ _ (by rw [Jvm.Kit.i64_neg (by omega)]; omega) e1 rfl
def fr (A : Int) (B : Nat) (w : Bool) : Int := if w then ((B : Int)).tdiv ((Nat.gcd (ab A).toNat B : Nat) : Int) else A.tdiv ((Nat.gcd (ab A).toNat B : Nat) : Int)
theorem q_38 {h : zH} {Q : Option Value → zH → Prop} (a0 a1 a2 : Int32) (B : Nat) (r0 : -1000 ≤ a0.toInt) (r1 : a0.toInt ≤ 1000000) (e1 : a1.toInt = (B : Int)) (B1 : 1 ≤ B) (B2 : B ≤ 1000000) (H : ∀ v : Int32, v.toInt = fr a0.toInt B (!decide (a2.toInt = 0)) → Q (some (.int v)) h) : zqm 38 [.int a0, .int a1, .int a2] h Q := by
  have ra : (ab a0.toInt).toNat ≤ 10000000 ∧ 0 ≤ ab a0.toInt := by
    unfold ab
    split <;> omega
  refine s_38 a0 a1 a2 ?_
  refine q_219 a0 r0 (fun v1 ev1 => ?_)
  refine zri_int ?_
  refine q_39 v1 a1 (ab a0.toInt).toNat B (by omega) e1 ra.1 (by omega) (fun v2 ev2 => ?_)
  have gp : 0 < Nat.gcd (ab a0.toInt).toNat B := Nat.gcd_pos_of_pos_right _ (by omega)
  unfold fr at H
  refine zri_int ⟨fun _ => ⟨fun y _ => H _ ?_, fun y _ => H _ ?_⟩, fun z => by exfalso; omega⟩
  · rw [decide_eq_false y, Jvm.Kit.i32_div (by omega), e1, ev2]
    rfl
  · rw [decide_eq_true (Decidable.not_not.mp y), Jvm.Kit.i32_div (by omega), ev2]
    rfl
theorem fr_b {A : Int} {B : Nat} {w : Bool} (r0 : -1000 ≤ A) (r1 : A ≤ 1000000) (B1 : 1 ≤ B) (B2 : B ≤ 1000000) : -2000000 ≤ fr A B w ∧ fr A B w ≤ 2000000 := by
  unfold fr
  have n1 : ∀ (X : Int) (g : Nat), (X.tdiv (g : Int)).natAbs ≤ X.natAbs := fun X g => by rw [Int.natAbs_tdiv]; exact Nat.div_le_self _ _
  have a := n1 A (Nat.gcd (ab A).toNat B)
  have b := n1 (B : Int) (Nat.gcd (ab A).toNat B)
  split <;> omega
/-- the same of longs -/
theorem fr64 {x v : Int64} {A : Int} {B : Nat} {w : Bool} (ex : x.toInt = if w then (B : Int) else A) (ev : v.toInt = ((Nat.gcd (ab A).toNat B : Nat) : Int)) (r0 : -1000 ≤ A) (r1 : A ≤ 1000000) (B1 : 1 ≤ B) (B2 : B ≤ 1000000) : (x / v).toInt = fr A B w := by
  have gp : 0 < Nat.gcd (ab A).toNat B := Nat.gcd_pos_of_pos_right _ (by omega)
  rw [Jvm.Kit.i64_div (by omega), ev, ex]
  unfold fr
  cases w <;> rfl

/-! arithmetic of the analyser -/
def rIn (l : Bool) (w : Int) : Prop := rOk l w w = true
theorem rOk_i {lo hi : Int} : rOk false lo hi = true ↔ -2147483648 ≤ lo ∧ hi ≤ 2147483647 := by
  unfold rOk iOk
  simp only [cond_false, Bool.and_eq_true, decide_eq_true_eq]
  unfold iMin iMax
  exact Iff.rfl
theorem rOk_l {lo hi : Int} : rOk true lo hi = true ↔ -9223372036854775808 ≤ lo ∧ hi ≤ 9223372036854775807 := by
  unfold rOk lOk
  simp only [cond_true, Bool.and_eq_true, decide_eq_true_eq]
  unfold lMin lMax
  exact Iff.rfl
theorem rOk_mid {l : Bool} {lo hi w : Int} (h : rOk l lo hi = true) (h1 : lo ≤ w) (h2 : w ≤ hi) : rIn l w := by
  unfold rIn
  cases l with
  | true => rw [rOk_l] at h ⊢; omega
  | false => rw [rOk_i] at h ⊢; omega
theorem rIn_i (x : Int32) : rIn false x.toInt := by
  have a := x.toInt_lt
  have b := x.le_toInt
  unfold rIn
  rw [rOk_i]
  omega
theorem rIn_l (x : Int64) : rIn true x.toInt := by
  have a := x.toInt_lt
  have b := x.le_toInt
  unfold rIn
  rw [rOk_l]
  omega
section GR
variable {ρ : List Int} {x : aX} {h : zH} {l : Bool} {a b : aA} {u v w : Int}
/-- the outcome of an operation: more numbers, and the answer's -/
def gOut (ρ : List Int) (h : zH) (p : aX × aA) (w : Int) : Prop := ∃ ρ', gPre ρ ρ' ∧ gX ρ' p.1 h ∧ gI ρ' p.2 w
theorem gTopL (hx : gX ρ x h) (hw : rIn l w) : gOut ρ h (aTopL l x) w := by
  unfold rIn at hw
  cases l with
  | true =>
    rw [rOk_l] at hw
    obtain ⟨h1, h2⟩ := gNew0 (nz := false) (lo := lMin) (hi := lMax) (a := (0, 0)) (b := (0, 0)) hx (show lMin ≤ w by unfold lMin; omega) (show w ≤ lMax by unfold lMax; omega) (fun q => by cases q)
    exact ⟨_, gPre.one, h1, h2⟩
  | false =>
    rw [rOk_i] at hw
    obtain ⟨h1, h2⟩ := gNew0 (nz := false) (lo := iMin) (hi := iMax) (a := (0, 0)) (b := (0, 0)) hx (show iMin ≤ w by unfold iMin; omega) (show w ≤ iMax by unfold iMax; omega) (fun q => by cases q)
    exact ⟨_, gPre.one, h1, h2⟩
theorem gTop (hx : gX ρ x h) (hw : rIn false w) : gOut ρ h (aTop x) w := gTopL (l := false) hx hw
theorem gConst (hx : gX ρ x h) : gOut ρ h (aConst x w) w := by
  obtain ⟨h1, h2⟩ := gNew0 (nz := false) (lo := w) (hi := w) (a := (0, 0)) (b := (0, 0)) hx (Int.le_refl _) (Int.le_refl _) (fun q => by cases q)
  exact ⟨_, gPre.one, h1, h2⟩
theorem gI_off {c : Int} (ha : gI ρ a u) : gI ρ (a.1, a.2 + c) (u + c) := by
  obtain ⟨z, h1, h2⟩ := ha
  exact ⟨z, h1, by simp only; omega⟩
theorem gAdd (hx : gX ρ x h) (ha : gI ρ a u) (hb : gI ρ b v) (hw : rIn l w) (he : rIn l (u + v) → w = u + v) : gOut ρ h (aAdd l x a b) w := by
  have ba := gBd hx ha
  have bb := gBd hx hb
  unfold aAdd
  cases hr : rOk l (aLo x a + aLo x b) (aHi x a + aHi x b) with
  | false => exact gTopL hx hw
  | true =>
    have e : w = u + v := he (rOk_mid hr (by omega) (by omega))
    subst e
    simp only [Bool.not_true, cond_false]
    cases h1 : decide (aLo x b = aHi x b) with
    | true =>
      rw [decide_eq_true_eq] at h1
      have e2 : v = aLo x b := by omega
      exact ⟨ρ, gPre.rf, hx, by rw [e2]; exact gI_off ha⟩
    | false =>
      simp only [cond_false]
      cases h2 : decide (aLo x a = aHi x a) with
      | true =>
        rw [decide_eq_true_eq] at h2
        have e2 : u = aLo x a := by omega
        refine ⟨ρ, gPre.rf, hx, ?_⟩
        have := gI_off (c := aLo x a) hb
        rw [show v + aLo x a = u + v by omega] at this
        exact this
      | false =>
        obtain ⟨g1, g2⟩ := gNew (nz := false) (t := 3) (a := a) (b := b) (z := u + v) (lo := aLo x a + aLo x b) (hi := aHi x a + aHi x b) hx (by omega) (by omega) (fun q => by cases q) ⟨(fun e => by cases e), (fun e => by cases e), (fun _ => ⟨u, v, gI_mono gPre.one ha, gI_mono gPre.one hb, rfl⟩), fun e => by cases e⟩
        exact ⟨_, gPre.one, g1, g2⟩
theorem gSub (hx : gX ρ x h) (ha : gI ρ a u) (hb : gI ρ b v) (hw : rIn l w) (he : rIn l (u - v) → w = u - v) : gOut ρ h (aSub l x a b) w := by
  have ba := gBd hx ha
  have bb := gBd hx hb
  unfold aSub
  cases hr : rOk l (aLo x a - aHi x b) (aHi x a - aLo x b) with
  | false => exact gTopL hx hw
  | true =>
    have e : w = u - v := he (rOk_mid hr (by omega) (by omega))
    subst e
    simp only [Bool.not_true, cond_false]
    cases h1 : decide (aLo x b = aHi x b) with
    | true =>
      rw [decide_eq_true_eq] at h1
      have e2 : v = aLo x b := by omega
      refine ⟨ρ, gPre.rf, hx, ?_⟩
      have := gI_off (c := - aLo x b) ha
      rw [show u + - aLo x b = u - v by omega] at this
      exact this
    | false =>
      obtain ⟨g1, g2⟩ := gNew (nz := false) (t := 1) (a := a) (b := b) (z := u - v) (lo := aLo x a - aHi x b) (hi := aHi x a - aLo x b) hx (by omega) (by omega) (fun q => by cases q) ⟨(fun _ => ⟨u, v, gI_mono gPre.one ha, gI_mono gPre.one hb, rfl⟩), (fun e => by cases e), (fun e => by cases e), fun e => by cases e⟩
      exact ⟨_, gPre.one, g1, g2⟩
theorem mul_between {a b u v : Int} (h1 : a ≤ u) (h2 : u ≤ b) : min (a * v) (b * v) ≤ u * v ∧ u * v ≤ max (a * v) (b * v) := by
  rcases Int.le_total 0 v with hv | hv
  · have := Int.mul_le_mul_of_nonneg_right h1 hv
    have := Int.mul_le_mul_of_nonneg_right h2 hv
    omega
  · have := Int.mul_le_mul_of_nonpos_right h1 hv
    have := Int.mul_le_mul_of_nonpos_right h2 hv
    omega
theorem mul_box {a b c d u v : Int} (h1 : a ≤ u) (h2 : u ≤ b) (h3 : c ≤ v) (h4 : v ≤ d) : min4 (a * c) (a * d) (b * c) (b * d) ≤ u * v ∧ u * v ≤ max4 (a * c) (a * d) (b * c) (b * d) := by
  have p := mul_between (v := v) h1 h2
  have q := mul_between (v := a) h3 h4
  have r := mul_between (v := b) h3 h4
  rw [Int.mul_comm c a, Int.mul_comm d a, Int.mul_comm v a] at q
  rw [Int.mul_comm c b, Int.mul_comm d b, Int.mul_comm v b] at r
  unfold min4 max4
  omega
theorem gMul (hx : gX ρ x h) (ha : gI ρ a u) (hb : gI ρ b v) (hw : rIn l w) (he : rIn l (u * v) → w = u * v) : gOut ρ h (aMul l x a b) w := by
  have ba := gBd hx ha
  have bb := gBd hx hb
  have bx := mul_box ba.1 ba.2 bb.1 bb.2
  unfold aMul
  dsimp only
  cases hr : rOk l (min4 (aLo x a * aLo x b) (aLo x a * aHi x b) (aHi x a * aLo x b) (aHi x a * aHi x b)) (max4 (aLo x a * aLo x b) (aLo x a * aHi x b) (aHi x a * aLo x b) (aHi x a * aHi x b)) with
  | false => exact gTopL hx hw
  | true =>
    have e : w = u * v := he (rOk_mid hr bx.1 bx.2)
    subst e
    simp only [Bool.not_true, cond_false]
    cases h1 : (decide (aLo x a = 62) && decide (aHi x a = 62)) with
    | true =>
      simp only [Bool.and_eq_true, decide_eq_true_eq] at h1
      have e2 : u = 62 := by omega
      obtain ⟨g1, g2⟩ := gNew (nz := false) (t := 4) (a := (0, 0)) (b := (0, 0)) (z := u * v) hx bx.1 bx.2 (fun q => by cases q) ⟨(fun e => by cases e), (fun e => by cases e), (fun e => by cases e), fun _ => by rw [e2]; exact Int.mul_emod_right 62 v⟩
      exact ⟨_, gPre.one, g1, g2⟩
    | false =>
      obtain ⟨g1, g2⟩ := gNew0 (nz := false) (a := (0, 0)) (b := (0, 0)) hx bx.1 bx.2 (fun q => by cases q)
      exact ⟨_, gPre.one, g1, g2⟩
theorem gNz (hx : gX ρ x h) (hb : gI ρ b v) (hn : aNz x b = true) : v ≠ 0 := by
  have bb := gBd hx hb
  unfold aNz at hn
  simp only [Bool.or_eq_true, Bool.and_eq_true, decide_eq_true_eq] at hn
  obtain ⟨z, h1, h2⟩ := hb
  obtain ⟨-, -, c3, -⟩ := gGet hx h1
  rcases hn with (h3 | h3) | ⟨h3, h4⟩
  · omega
  · omega
  · have := c3 h3
    omega
theorem gDiv (hx : gX ρ x h) (ha : gI ρ a u) (hb : gI ρ b v) (hw : rIn l w) (he : 0 ≤ u → 0 < v → w = u / v) {p : aX × aA} (hp : aDiv l x a b = some p) : v ≠ 0 ∧ gOut ρ h p w := by
  have ba := gBd hx ha
  have bb := gBd hx hb
  unfold aDiv at hp
  cases hn : aNz x b with
  | false => rw [hn] at hp; cases hp
  | true =>
    refine ⟨gNz hx hb hn, ?_⟩
    rw [hn] at hp
    simp only [Bool.not_true, cond_false] at hp
    cases hc : (decide (0 ≤ aLo x a) && decide (0 < aLo x b) && decide (aLo x b = aHi x b)) with
    | true =>
      rw [hc] at hp
      simp only [Bool.and_eq_true, decide_eq_true_eq] at hc
      cases hp
      have e2 : v = aLo x b := by omega
      have e := he (by omega) (by omega)
      obtain ⟨g1, g2⟩ := gNew0 (nz := false) (a := (0, 0)) (b := (0, 0)) (z := w) (lo := aLo x a / aLo x b) (hi := aHi x a / aLo x b) hx (by rw [e, e2]; exact Int.ediv_le_ediv (by omega) ba.1) (by rw [e, e2]; exact Int.ediv_le_ediv (by omega) ba.2) (fun q => by cases q)
      exact ⟨_, gPre.one, g1, g2⟩
    | false =>
      rw [hc] at hp
      cases hp
      exact gTopL hx hw
theorem gRem (hx : gX ρ x h) (ha : gI ρ a u) (hb : gI ρ b v) (hw : rIn l w) (he : w = u.tmod v) {p : aX × aA} (hp : aRem l x a b = some p) : v ≠ 0 ∧ gOut ρ h p w := by
  have ba := gBd hx ha
  have bb := gBd hx hb
  unfold aRem at hp
  cases hn : aNz x b with
  | false => rw [hn] at hp; cases hp
  | true =>
    refine ⟨gNz hx hb hn, ?_⟩
    rw [hn] at hp
    simp only [Bool.not_true, cond_false] at hp
    cases hc : (decide (0 < aLo x b) && decide (aLo x b = aHi x b)) with
    | true =>
      rw [hc] at hp
      simp only [Bool.and_eq_true, decide_eq_true_eq] at hc
      cases hp
      have e2 : v = aLo x b := by omega
      have hv : 0 < v := by omega
      have t := tmod_bounds (a := u) hv
      have hlo : (bif decide (0 ≤ aLo x a) then (0 : Int) else 1 - aLo x b) ≤ w := by
        cases h0 : decide (0 ≤ aLo x a) with
        | true =>
          rw [decide_eq_true_eq] at h0
          rw [he]
          simp only [cond_true]
          rw [Int.tmod_eq_emod_of_nonneg (by omega)]
          exact Int.emod_nonneg _ (by omega)
        | false => simp only [cond_false]; omega
      obtain ⟨g1, g2⟩ := gNew0 (nz := false) (a := (0, 0)) (b := (0, 0)) (z := w) (lo := (bif decide (0 ≤ aLo x a) then (0 : Int) else 1 - aLo x b)) (hi := aLo x b - 1) hx hlo (by omega) (fun q => by cases q)
      exact ⟨_, gPre.one, g1, g2⟩
    | false =>
      rw [hc] at hp
      cases hp
      exact gTopL hx hw
end GR

/-! what was found last: rows -/
def pS (MA MB n : Nat) (J : zH → Prop) : Prop := ∀ (as : List Value), as.length = n → (∀ v ∈ as, ∃ u : Int32, v = .int u) → ∀ h, hTy h → J h → JS h → zqm MA (.ref 0 :: as) h (fun _ h1 => hTy h1 → zqm MB (.ref 58 :: as) h1 (fun _ h2 => hTy h2 → JS h2))
theorem JS_ok {g : zH} (e : g.1 0 11 = Int32.ofInt 0) : JS (zSet g 58 3 (Int32.ofInt 0)) := by
  unfold JS
  rw [zs_q (by decide), wk_at]
  exact e
theorem ps_row : pS 80 130 3 JR := by
  intro as hl hv h ht hJ hS
  match as, hl, hv with
  | [v1, v2, v3], hl, hv =>
    obtain ⟨r, rfl⟩ := hv v1 (by simp)
    obtain ⟨l, rfl⟩ := hv v2 (by simp)
    obtain ⟨n, rfl⟩ := hv v3 (by simp)
    refine q_80 r l n (fun c ht1 => ?_) (fun c ht1 => ?_) (fun c h' hp ht1 => ?_)
    · refine q_130 r l n (fun d _ => hS) (fun d => ?_) (fun d => ?_)
      · exfalso; omega
      · exfalso; omega
    · refine q_130 r l n (fun d => ?_) (fun d _ => JS_s h _) (fun d => ?_)
      · exfalso; omega
      · exfalso; omega
    · refine q_130 r l n (fun d => ?_) (fun d => ?_) (fun d h'' hp2 _ => JS_ok ?_)
      · exfalso; omega
      · exfalso; omega
      · rw [hp2.1 0 (by decide), zs_q (by decide), zs_q (by decide), wk_at]
theorem ps_set : pS 81 131 3 JR := by
  intro as hl hv h ht hJ hS
  match as, hl, hv with
  | [v1, v2, v3], hl, hv =>
    obtain ⟨r, rfl⟩ := hv v1 (by simp)
    obtain ⟨i, rfl⟩ := hv v2 (by simp)
    obtain ⟨v, rfl⟩ := hv v3 (by simp)
    have hA : 0 ≤ r.toInt ∧ r.toInt < 8 → _ := fun z => JR_at hJ z.1 z.2
    have f0 : ∀ (k : Int32) (q j : Nat), q ≠ 0 → (zSet h 0 11 k).1 q j = h.1 q j := fun k q j hq => by rw [sg1, if_neg hq]
    refine q_81 r i v ht (fun c ht1 => ?_) (fun c ht1 => ?_) (fun c ht1 => ?_) (fun c ht1 => ?_)
    · refine q_131 r i v ht1 (fun d _ => hS) (fun d => ?_) (fun d => ?_) (fun d => ?_)
      all_goals (exfalso; omega)
    · have hA := hA (by omega)
      refine q_131 r i v ht1 (fun d => ?_) (fun d _ => JS_s h _) (fun d => ?_) (fun d => ?_)
      · exfalso; omega
      · rw [f0 _ _ _ (by decide)] at d
        exfalso; omega
      · rw [f0 _ _ _ (by decide)] at d
        exfalso; omega
    · have hA := hA (by omega)
      refine q_131 r i v ht1 (fun d => ?_) (fun d => ?_) (fun d _ => JS_s h _) (fun d => ?_)
      · exfalso; omega
      · rw [f0 _ _ _ (by decide)] at d
        exfalso; omega
      · rw [f0 _ _ _ (by decide), f0 _ _ _ (by decide)] at d
        exfalso; omega
    · have hA := hA (by omega)
      have f1 : ∀ (q j : Nat), q ≠ 0 → q ≠ 3 + r.toInt.toNat → (zSet (zSet h (3 + r.toInt.toNat) i.toInt.toNat (lowA (h.1 11 r.toInt.toNat) v)) 0 11 (Int32.ofInt 0)).1 q j = h.1 q j := fun q j c1 c2 => by rw [sg1, if_neg c1, sg1, if_neg c2]
      refine q_131 r i v ht1 (fun d => ?_) (fun d => ?_) (fun d => ?_) (fun d _ => JS_ok ?_)
      · exfalso; omega
      · rw [f1 _ _ (by decide) (by omega)] at d
        exfalso; omega
      · rw [f1 _ _ (by decide) (by omega), f1 _ _ (by decide) (by omega)] at d
        exfalso; omega
      · rw [zs_q (by decide), wk_at]
theorem ps_drop : pS 83 134 1 JR := by
  intro as hl hv h ht hJ hS
  match as, hl, hv with
  | [v1], hl, hv =>
    obtain ⟨r, rfl⟩ := hv v1 (by simp)
    have hA : 0 ≤ r.toInt ∧ r.toInt < 8 → _ := fun z => JR_at hJ z.1 z.2
    have f0 : ∀ (k : Int32) (q j : Nat), q ≠ 0 → (zSet h 0 11 k).1 q j = h.1 q j := fun k q j hq => by rw [sg1, if_neg hq]
    refine q_83 r (fun c ht1 => ?_) (fun c ht1 => ?_) (fun c ht1 => ?_)
    · refine q_134 r (fun d _ => hS) (fun d => ?_) (fun d => ?_)
      all_goals (exfalso; omega)
    · have hA := hA (by omega)
      refine q_134 r (fun d => ?_) (fun d _ => JS_s h _) (fun d => ?_)
      · exfalso; omega
      · rw [f0 _ _ _ (by decide)] at d
        exfalso; omega
    · have hA := hA (by omega)
      have f1 : ∀ (q j : Nat), q ≠ 0 → q ≠ 12 → (zSet (zSet h 12 r.toInt.toNat (Int32.ofInt (-1))) 0 11 (Int32.ofInt 0)).1 q j = h.1 q j := fun q j c1 c2 => by rw [sg1, if_neg c1, sg1, if_neg c2]
      refine q_134 r (fun d => ?_) (fun d => ?_) (fun d _ => JS_ok ?_)
      · exfalso; omega
      · rw [f1 _ _ (by decide) (by omega)] at d
        exfalso; omega
      · rw [zs_q (by decide), wk_at]
theorem ps_copy : pS 82 133 5 JR := by
  intro as hl hv h ht hJ hS
  match as, hl, hv with
  | [v1, v2, v3, v4, v5], hl, hv =>
    obtain ⟨a, rfl⟩ := hv v1 (by simp)
    obtain ⟨i, rfl⟩ := hv v2 (by simp)
    obtain ⟨b, rfl⟩ := hv v3 (by simp)
    obtain ⟨j, rfl⟩ := hv v4 (by simp)
    obtain ⟨n, rfl⟩ := hv v5 (by simp)
    have f0 : ∀ (k : Int32) (q j : Nat), q ≠ 0 → (zSet h 0 11 k).1 q j = h.1 q j := fun k q j hq => by rw [sg1, if_neg hq]
    have hA : 0 ≤ a.toInt ∧ a.toInt < 8 → _ := fun z => JR_at hJ z.1 z.2
    have hB : 0 ≤ b.toInt ∧ b.toInt < 8 → _ := fun z => JR_at hJ z.1 z.2
    have eL : (0 ≤ a.toInt ∧ a.toInt < 8) → (0 ≤ b.toInt ∧ b.toInt < 8) → ¬ ((h.1 59 a.toInt.toNat).toInt < 0 ∨ (h.1 59 b.toInt.toNat).toInt < 0) → (h.1 11 a.toInt.toNat).toInt = (h.1 59 a.toInt.toNat).toInt ∧ (h.1 11 b.toInt.toNat).toInt = (h.1 59 b.toInt.toNat).toInt := fun z1 z2 z3 => by
      rw [((hA z1).2 (by omega)).2.2, ((hB z2).2 (by omega)).2.2]
      exact ⟨rfl, rfl⟩
    refine q_82 a i b j n ht (fun c ht1 => ?_) (fun c ht1 => ?_) (fun c ht1 => ?_) (fun c ht1 => ?_) (fun c ht1 => ?_)
    · refine q_133 a i b j n ht1 (fun d _ => hS) (fun d => ?_) (fun d => ?_) (fun d => ?_) (fun d => ?_)
      all_goals (exfalso; omega)
    · have hA := hA c.1.1
      have hB := hB c.1.2
      refine q_133 a i b j n ht1 (fun d => ?_) (fun d _ => JS_s h _) (fun d => ?_) (fun d => ?_) (fun d => ?_)
      all_goals (exfalso)
      · omega
      all_goals (simp only [f0 _ _ _ (show (59 : Nat) ≠ 0 by decide), f0 _ _ _ (show (60 : Nat) ≠ 0 by decide)] at d)
      all_goals omega
    · have hA' := hA c.1.1
      have hB' := hB c.1.2
      have eL := eL c.1.1 c.1.2 (by omega)
      refine q_133 a i b j n ht1 (fun d => ?_) (fun d => ?_) (fun d _ => JS_s h _) (fun d => ?_) (fun d => ?_)
      all_goals (exfalso)
      · omega
      all_goals (simp only [f0 _ _ _ (show (59 : Nat) ≠ 0 by decide), f0 _ _ _ (show (60 : Nat) ≠ 0 by decide)] at d)
      all_goals omega
    · have hA' := hA c.1.1
      have hB' := hB c.1.2
      have eL := eL c.1.1 c.1.2 (by omega)
      have hA2 := hA'.2 (by omega)
      have hB2 := hB'.2 (by omega)
      refine q_133 a i b j n ht1 (fun d => ?_) (fun d => ?_) (fun d => ?_) (fun d _ => JS_s h _) (fun d => ?_)
      all_goals (exfalso)
      · omega
      all_goals (simp only [f0 _ _ _ (show (59 : Nat) ≠ 0 by decide), f0 _ _ _ (show (60 : Nat) ≠ 0 by decide)] at d)
      all_goals omega
    · have hA' := hA c.1.1
      have hB' := hB c.1.2
      have eL := eL c.1.1 c.1.2 (by omega)
      have hA2 := hA'.2 (by omega)
      have hB2 := hB'.2 (by omega)
      have f1 : ∀ (q l : Nat), q ≠ 0 → q ≠ 3 + b.toInt.toNat → (zSet (zCpy h (3 + a.toInt.toNat) (3 + b.toInt.toNat) i.toInt.toNat j.toInt.toNat n.toInt.toNat) 0 11 (Int32.ofInt 0)).1 q l = h.1 q l := fun q l c1 c2 => by rw [sg1, if_neg c1, sgc1, if_neg c2]
      have g59 : ∀ l, (zSet (zCpy h (3 + a.toInt.toNat) (3 + b.toInt.toNat) i.toInt.toNat j.toInt.toNat n.toInt.toNat) 0 11 (Int32.ofInt 0)).1 59 l = h.1 59 l := fun l => f1 59 l (by decide) (by omega)
      have g60 : ∀ l, (zSet (zCpy h (3 + a.toInt.toNat) (3 + b.toInt.toNat) i.toInt.toNat j.toInt.toNat n.toInt.toNat) 0 11 (Int32.ofInt 0)).1 60 l = h.1 60 l := fun l => f1 60 l (by decide) (by omega)
      refine q_133 a i b j n ht1 (fun d => ?_) (fun d => ?_) (fun d => ?_) (fun d => ?_) (fun d h' hp _ => JS_ok ?_)
      · exfalso; omega
      · simp only [g59] at d
        exfalso; omega
      · simp only [g59] at d
        exfalso; omega
      · simp only [g59, g60] at d
        exfalso; omega
      · rw [hp.1 0 (by decide), wk_at]
theorem pr_status : pr2 113 127 0 JS := by
  intro as hl hv h ht hJ
  have e : as = [] := List.eq_nil_of_length_eq_zero hl
  subst e
  refine s_113 (fun _ => ?_)
  refine s_127 (fun _ => ?_)
  exact ⟨by rw [show h.1 0 11 = h.1 58 3 from hJ], hJ⟩

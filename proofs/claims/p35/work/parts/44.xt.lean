/-! itch of a set of cells, on both sides -/
def itv (G : Nat → Int) (s c : Nat) : Int := if flB (gyD G) (gyE G s) c = true then (if smB (gyD G) c = true then itA (gyK G s) (gyS G s) else itW (gyK G s) (gyS G s)) else 0
def sumc (f : Nat → Int) : Nat → Int
  | 0 => 0
  | k + 1 => sumc f k + f k
def itcS (G : Nat → Int) (s : Nat) (p : Nat → Bool) (n : Nat) : Int := sumc (fun c => if p c = true then itv G s c else 0) n
theorem itA_r {k s : Int} (s1 : 1 ≤ s) (s5 : s ≤ 5) : 0 ≤ itA k s ∧ itA k s ≤ 10 := by
  unfold itA
  repeat' split
  all_goals omega
theorem itW_r {k s : Int} (s1 : 1 ≤ s) (s5 : s ≤ 5) : 0 ≤ itW k s ∧ itW k s ≤ 10 := by
  unfold itW
  repeat' split
  all_goals omega
theorem itv_r {G : Nat → Int} {s c : Nat} (s1 : 1 ≤ gyS G s) (s5 : gyS G s ≤ 5) : 0 ≤ itv G s c ∧ itv G s c ≤ 10 := by
  have a := itA_r (k := gyK G s) s1 s5
  have b := itW_r (k := gyK G s) s1 s5
  unfold itv
  repeat' split
  all_goals omega
theorem itcS_r {G : Nat → Int} {s : Nat} {p : Nat → Bool} (s1 : 1 ≤ gyS G s) (s5 : gyS G s ≤ 5) : ∀ n : Nat, 0 ≤ itcS G s p n ∧ itcS G s p n ≤ 10 * (n : Int)
  | 0 => ⟨Int.le_refl 0, by show (0 : Int) ≤ 10 * ((0 : Nat) : Int); omega⟩
  | n + 1 => by
    have ih := itcS_r (p := p) s1 s5 n
    have v := itv_r (c := n) s1 s5
    have e : itcS G s p (n + 1) = itcS G s p n + (if p n = true then itv G s n else 0) := rfl
    rw [e]
    split <;> omega
theorem cnt_sum (p fl sm : Nat → Bool) (A W : Int) : ∀ n : Nat, ((cnt (fun c => sm c && (fl c && p c)) n : Nat) : Int) * A + ((cnt (fun c => !sm c && (fl c && p c)) n : Nat) : Int) * W = sumc (fun c => if p c = true then (if fl c = true then (if sm c = true then A else W) else 0) else 0) n
  | 0 => by show ((0 : Nat) : Int) * A + ((0 : Nat) : Int) * W = 0; simp
  | n + 1 => by
    have ih := cnt_sum p fl sm A W n
    show ((cnt (fun c => sm c && (fl c && p c)) n + (if (sm n && (fl n && p n)) = true then 1 else 0) : Nat) : Int) * A + ((cnt (fun c => !sm c && (fl c && p c)) n + (if (!sm n && (fl n && p n)) = true then 1 else 0) : Nat) : Int) * W = sumc (fun c => if p c = true then (if fl c = true then (if sm c = true then A else W) else 0) else 0) n + (if p n = true then (if fl n = true then (if sm n = true then A else W) else 0) else 0)
    rw [← ih]
    generalize cnt (fun c => sm c && (fl c && p c)) n = x
    generalize cnt (fun c => !sm c && (fl c && p c)) n = y
    cases p n <;> cases fl n <;> cases sm n <;> simp [Int.add_mul] <;> omega
theorem mkm_andn (p q : Nat → Bool) : mkm p 15 &&& (mkm q 15 ^^^ Int32.ofInt (-1)) = mkm (fun c => !q c && p c) 15 := mkm_eq (by omega) (fun i hi => by
  show _ = (decide (i < 15) && (!q i && p i))
  rw [b_and, bt_not hi, mkm_bt p 15 (by omega) i hi, mkm_bt q 15 (by omega) i hi]
  cases decide (i < 15) <;> cases p i <;> cases q i <;> rfl)
theorem q_17 {h : zH} {Q : Option Value → zH → Prop} {G : Nat → Int} (a1 a2 : Int32) (k : Nat) (p : Nat → Bool) (C : CT1 h 15 G) (e1 : a1.toInt = (k : Int)) (kG : (k : Int) < G 57) (e2 : a2 = mkm p 15) (H : ∀ v : Int32, v.toInt = itcS G k p 15 → Q (some (.int v)) h) : zqm 17 [.ref 15, .int a1, .int a2] h Q := by
  obtain ⟨c1, c2, c3, c4, c5, c6, c7, c8, c9, c10, c11, c12, c13⟩ := C
  obtain ⟨w1, w2, w3, w4, w5, w6⟩ := c2
  obtain ⟨u1, u2, u3, u4, u5, u6⟩ := c13 k kG
  obtain ⟨l1, l2, l3⟩ := w5 k kG
  have u4 : h.1 20 k = mkm (flB (gyD G) (gyE G k)) 15 := u4
  have u5 : (h.1 21 k).toInt = itA (gyK G k) (gyS G k) := u5
  have u6 : (h.1 22 k).toInt = itW (gyK G k) (gyS G k) := u6
  have rA := itA_r (k := gyK G k) l3.1 l3.2
  have rW := itW_r (k := gyK G k) l3.1 l3.2
  have kn : a1.toInt.toNat = k := by omega
  refine s_17 a1 a2 ?_
  refine q_20 a1 (by omega) ?_
  refine zri_int ?_
  refine ⟨fun _ _ _ => ?_, fun z => absurd (by omega) (zb2.mp z)⟩
  rw [kn, u4, c10, e2]
  refine q_217 _ (fun c => smB (gyD G) c && (flB (gyD G) (gyE G k) c && p c)) (by rw [mkm_and, mkm_and]) (fun v4 e4 => ?_)
  refine zri_int ?_
  intro _ _
  rw [c10]
  refine q_217 _ (fun c => !smB (gyD G) c && (flB (gyD G) (gyE G k) c && p c)) (by rw [mkm_and, mkm_andn]) (fun v6 e6 => ?_)
  refine zri_int ?_
  intro _ _
  have n4 := cnt_le (fun c => smB (gyD G) c && (flB (gyD G) (gyE G k) c && p c)) 15
  have n6 := cnt_le (fun c => !smB (gyD G) c && (flB (gyD G) (gyE G k) c && p c)) 15
  have cs := cnt_sum p (flB (gyD G) (gyE G k)) (smB (gyD G)) (itA (gyK G k) (gyS G k)) (itW (gyK G k) (gyS G k)) 15
  have r := itcS_r (p := p) l3.1 l3.2 15
  have cs : _ = itcS G k p 15 := cs
  generalize cnt (fun c => smB (gyD G) c && (flB (gyD G) (gyE G k) c && p c)) 15 = x at *
  generalize cnt (fun c => !smB (gyD G) c && (flB (gyD G) (gyE G k) c && p c)) 15 = y at *
  have m1 : 0 ≤ (x : Int) * itA (gyK G k) (gyS G k) := Int.mul_nonneg (by omega) rA.1
  have m2 : 0 ≤ (y : Int) * itW (gyK G k) (gyS G k) := Int.mul_nonneg (by omega) rW.1
  refine H _ ?_
  rw [wk_add (wk_mul e4 u5 (by omega) (by omega)) (wk_mul e6 u6 (by omega) (by omega)) (by omega) (by omega)]
  exact cs
theorem dvt : ∀ c, c < 8 → (nI c / Int32.ofInt 2).toInt = ((c / 2 : Nat) : Int) := by decide
theorem q_161 {h : zH} {Q : Option Value → zH → Prop} (a1 a2 : Int32) (s c : Nat) (e1 : a1.toInt = (s : Int)) (s4 : s < 4) (e2 : a2.toInt = (c : Int)) (hc : c < 15) (f : Nat → Bool) (hf : h.1 66 s = mkm f 15) (H : Q (some (.int (zbo (f c = true)))) h) : zqm 161 [.ref 58, .int a1, .int a2] h Q := by
  refine s_161 a1 a2 (fun _ _ => ?_)
  rw [show a1.toInt.toNat = s by omega, hf]
  refine q_122 _ a2 c e2 (by omega) ?_
  refine zri_int ?_
  rw [zbC (q := f c = true) (by rw [mkm_bt f 15 (by omega) c (by omega), decide_eq_true hc, Bool.true_and])]
  exact H
theorem q_154s {h : zH} {Q : Option Value → zH → Prop} (a2 : Int32) (c : Nat) (e2 : a2.toInt = (c : Int)) (hc : c < 15) (f : Nat → Bool) (hf : h.1 58 13 = mkm f 15) (H : Q (some (.int (zbo (f c = true)))) h) : zqm 154 [.ref 58, .int a2] h Q := by
  refine s_154 a2 ?_
  rw [hf]
  refine q_122 _ a2 c e2 (by omega) ?_
  refine zri_int ?_
  rw [zbC (q := f c = true) (by rw [mkm_bt f 15 (by omega) c (by omega), decide_eq_true hc, Bool.true_and])]
  exact H
theorem q_163 {h : zH} {Q : Option Value → zH → Prop} (a1 a2 : Int32) (s c : Nat) (e1 : a1.toInt = (s : Int)) (e2 : a2.toInt = (c : Int)) (hc : c < 15) (w : wfG (nowG h)) (sG : (s : Int) < nowG h 57) (hF : h.1 66 s = mkm (flB (gyD (nowG h)) (gyE (nowG h) s)) 15) (hS : h.1 58 13 = mkm (smB (gyD (nowG h))) 15) (H : ∀ v : Int32, v.toInt = itv (nowG h) s c → Q (some (.int v)) h) : zqm 163 [.ref 58, .int a1, .int a2] h Q := by
  have s4 : s < 4 := by have := w.2.1; omega
  obtain ⟨⟨k1, k5⟩, -, ⟨s1, s5⟩⟩ := w.2.2.2.2.1 s sG
  have eK : (h.1 64 (45 + 3 * s)).toInt = gyK (nowG h) s := rfl
  have eS : (h.1 64 (45 + 3 * s + 2)).toInt = gyS (nowG h) s := rfl
  have qk : ∀ {P : Option Value → zH → Prop}, P (some (.int (h.1 64 (45 + 3 * s)))) h → zqm 158 [.ref 58, .int a1] h P := fun hp => by
    refine s_158 a1 ?_
    rw [o45 e1 (by omega), n45]
    intro _ _
    exact hp
  have qs : ∀ {P : Option Value → zH → Prop}, P (some (.int (h.1 64 (45 + 3 * s + 2)))) h → zqm 160 [.ref 58, .int a1] h P := fun hp => by
    refine s_160 a1 ?_
    rw [wk_add (o45 e1 (by omega)) kc_2 (by omega) (by omega), show (((45 + 3 * s : Nat) : Int) + 2).toNat = 45 + 3 * s + 2 by omega]
    intro _ _
    exact hp
  refine s_163 a1 a2 ?_
  refine q_161 a1 a2 s c e1 s4 e2 hc _ hF ?_
  refine zri_int ?_
  refine ⟨fun z => ?_, fun z => ?_⟩
  · have z := zb1.mp z
    have it1 : itv (nowG h) s c = if smB (gyD (nowG h)) c = true then itA (gyK (nowG h) s) (gyS (nowG h) s) else itW (gyK (nowG h) s) (gyS (nowG h) s) := if_pos z
    refine qk ?_
    refine zri_int ?_
    rw [eK]
    generalize gyK (nowG h) s = K at *
    generalize hSc : gyS (nowG h) s = S at *
    refine ⟨fun y => ?_, fun y => ?_, fun y => ?_, fun y => ?_, fun y => ?_⟩
    · refine qs (zri_int (H _ ?_))
      rw [eS, it1]
      simp only [itA, itW, if_pos y, ite_self]
    · refine qs (zri_int (H _ ?_))
      have ex : h.1 64 (45 + 3 * s + 2) = nI S.toNat := x_nI (by rw [eS]; omega) (by omega)
      rw [ex, dvt _ (by omega), it1]
      simp only [itA, itW, if_neg (show ¬ K = 1 by omega), if_pos y, ite_self]
      omega
    · refine q_154s a2 c e2 hc _ hS ?_
      refine zri_int ?_
      refine ⟨fun x => ?_, fun x => ?_⟩
      · refine qs (zri_int (H _ ?_))
        rw [eS, it1, if_neg (zb0.mp x)]
        simp only [itW, if_neg (show ¬ K = 1 by omega), if_neg (show ¬ K = 2 by omega), if_pos y]
      · refine qs (zri_int (H _ ?_))
        rw [wk_mul kc_2 eS (by omega) (by omega), it1, if_pos (zb1.mp x)]
        simp only [itA, if_neg (show ¬ K = 1 by omega), if_neg (show ¬ K = 2 by omega), if_pos y]
    · refine H _ ?_
      rw [kc_1, it1]
      simp only [itA, itW, if_neg (show ¬ K = 1 by omega), if_neg (show ¬ K = 2 by omega), if_neg (show ¬ K = 3 by omega), if_pos y, ite_self]
    · refine q_154s a2 c e2 hc _ hS ?_
      refine zri_int ?_
      refine ⟨fun x => H _ ?_, fun x => H _ ?_⟩
      · rw [kc_0, it1, if_neg (zb0.mp x)]
        simp only [itW, if_neg (show ¬ K = 1 by omega), if_neg (show ¬ K = 2 by omega), if_neg (show ¬ K = 3 by omega), if_neg (show ¬ K = 4 by omega)]
      · rw [kc_1, it1, if_pos (zb1.mp x)]
        simp only [itA, if_neg (show ¬ K = 1 by omega), if_neg (show ¬ K = 2 by omega), if_neg (show ¬ K = 3 by omega)]
  · refine H _ ?_
    rw [kc_0]
    exact (if_neg (zb2.mp z)).symm
theorem l_164 {h : zH} {Q : Option Value → zH → Prop} (x1 x2 : Int32) (s : Nat) (p : Nat → Bool) (e1 : x1.toInt = (s : Int)) (ex : x2 = mkm p 15) (w : wfG (nowG h)) (sG : (s : Int) < nowG h 57) (hF : h.1 66 s = mkm (flB (gyD (nowG h)) (gyE (nowG h) s)) 15) (hS : h.1 58 13 = mkm (smB (gyD (nowG h))) 15) (H : ∀ v : Int32, v.toInt = itcS (nowG h) s p 15 → Q (some (.int v)) h) : ∀ (n c : Nat) (x3 x4 : Int32), x4.toInt = (c : Int) → c ≤ 15 → x3.toInt = itcS (nowG h) s p c → zQ n 164 5 [some (.ref 58), some (.int x1), some (.int x2), some (.int x3), some (.int x4)] [] h Q
  | 0, _, _, _, _, _, _ => zQ_zero
  | n + 1, c, x3, x4, e4, hc, e3 => by
    obtain ⟨-, -, ⟨s1, s5⟩⟩ := w.2.2.2.2.1 s sG
    have r := itcS_r (p := p) s1 s5 c
    have v := itv_r (c := c) s1 s5
    have en : itcS (nowG h) s p (c + 1) = itcS (nowG h) s p c + (if p c = true then itv (nowG h) s c else 0) := rfl
    refine s_164_5 x1 x2 x3 x4 ⟨fun d => ?_, fun d => ?_⟩
    · have c15 : c = 15 := by omega
      subst c15
      exact H x3 e3
    · have e4' := ai (x := x4) (k := 1) (by omega) (by omega) (by omega) (by omega)
      have pc : bt x2 c = p c := by rw [ex, mkm_bt p 15 (by omega) c (by omega), decide_eq_true (by omega), Bool.true_and]
      refine q_122 x2 x4 c e4 (by omega) ?_
      refine zri_int ?_
      refine ⟨fun z => ?_, fun z => ?_⟩
      · have z := zb0.mp z
        rw [pc] at z
        refine l_164 x1 x2 s p e1 ex w sG hF hS H n (c + 1) _ _ (by omega) (by omega) ?_
        rw [ai (by omega) (by omega) (by omega) (by omega), en, if_neg z, e3]
      · have z := zb1.mp z
        rw [pc] at z
        refine q_163 x1 x4 s c e1 e4 (by omega) w sG hF hS (fun v4 e5 => ?_)
        refine zri_int ?_
        refine l_164 x1 x2 s p e1 ex w sG hF hS H n (c + 1) _ _ (by omega) (by omega) ?_
        rw [wk_add e3 e5 (by omega) (by omega), en, if_pos z]
theorem q_164 {h : zH} {Q : Option Value → zH → Prop} (a1 a2 : Int32) (s : Nat) (p : Nat → Bool) (e1 : a1.toInt = (s : Int)) (ex : a2 = mkm p 15) (w : wfG (nowG h)) (sG : (s : Int) < nowG h 57) (hF : h.1 66 s = mkm (flB (gyD (nowG h)) (gyE (nowG h) s)) 15) (hS : h.1 58 13 = mkm (smB (gyD (nowG h))) 15) (H : ∀ v : Int32, v.toInt = itcS (nowG h) s p 15 → Q (some (.int v)) h) : zqm 164 [.ref 58, .int a1, .int a2] h Q := s_164 a1 a2 (fun n => l_164 a1 a2 s p e1 ex w sG hF hS H n 0 _ _ kc_0 (by omega) (by rw [kc_0]; rfl))

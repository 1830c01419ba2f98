/-! how the parts of a text are read -/
section PD
variable (T : Nat → Int32) (N : Int)
def law1 (s : Int × Int) : (Int × Int) × Int := sN T N 0 14 (sL T N 108 108 s).1
def law2 (s : Int × Int) : (Int × Int) × Int := sN T N 0 3 (sL T N 44 44 (law1 T N s).1).1
def law3 (s : Int × Int) : Int × Int := (sL T N 59 59 (law2 T N s).1).1
def itS (lo hi : Int) (s : Int × Int) : Nat → Int × Int
  | 0 => s
  | c + 1 => (sL T N lo hi (itS lo hi s c)).1
def itV (lo hi : Int) (s : Int × Int) (c : Nat) : Int := (sL T N lo hi (itS T N lo hi s c)).2
def secB (hd : Int) (s : Int × Int) : Int × Int := (sL T N hd hd s).1
def secE (hd lo hi : Int) (s : Int × Int) : Int × Int := (sL T N 59 59 (itS T N lo hi (secB T N hd s) 15)).1
def kd (x : Int) : Int := if x = 112 then 1 else if x = 122 then 2 else if x = 121 then 3 else if x = 107 then 4 else if x = 111 then 5 else 0
def man1 (s : Int × Int) : (Int × Int) × Int := sN T N 0 2 (s.1 + 1, 0)
def man2 (s : Int × Int) : (Int × Int) × Int := sN T N 1 5 (sL T N 44 44 (man1 T N s).1).1
def man3 (s : Int × Int) : Int × Int := (sL T N 59 59 (man2 T N s).1).1
def manE (k : Int) (s : Int × Int) : Int × Int := if kd (pk T N s.1) = 0 then (s.1, 1) else if 4 ≤ k then (s.1, 3) else man3 T N s
def menS (s : Int × Int) : Nat → Int × Int
  | 0 => s
  | k + 1 => manE T N (k : Int) (menS s k)
def go (s : Int × Int) (k : Nat) : Prop := (menS T N s k).2 = 0 ∧ (menS T N s k).1 < N
/-- where the surveyors end, or fail -/
def stp (s : Int × Int) (K : Nat) : Prop := ¬ go T N s K ∧ ∀ j, j < K → go T N s j
end PD
section PE
variable {T : Nat → Int32} {N : Int} {lo hi a f : Int} {s : Int × Int}
theorem stp_u {K K' : Nat} (h : stp T N s K) (h' : stp T N s K') : K = K' := by
  rcases Nat.lt_trichotomy K K' with z | z | z
  · exact absurd (h'.2 K z) h.1
  · exact z
  · exact absurd (h.2 K' z) h'.1
theorem sL_v (hl : lo ≤ hi) : 0 ≤ (sL T N lo hi s).2 ∧ (sL T N lo hi s).2 ≤ hi - lo := by
  by_cases c : s.2 = 0
  · by_cases d : lo ≤ pk T N s.1 ∧ pk T N s.1 ≤ hi
    · rw [sL_ok c d]
      exact ⟨by show 0 ≤ pk T N s.1 - lo; omega, by show pk T N s.1 - lo ≤ hi - lo; omega⟩
    · rw [sL_no c d]
      exact ⟨Int.le_refl 0, by show (0 : Int) ≤ hi - lo; omega⟩
  · rw [sL_st c]
    exact ⟨Int.le_refl 0, by show (0 : Int) ≤ hi - lo; omega⟩
theorem itS_st (h : ¬ s.2 = 0) : ∀ c, itS T N lo hi s c = s
  | 0 => rfl
  | c + 1 => by
    show (sL T N lo hi (itS T N lo hi s c)).1 = s
    rw [itS_st h c, sL_st h]
theorem itS_st2 {c : Nat} (h : ¬ (itS T N lo hi s c).2 = 0) : ∀ d, itS T N lo hi s (c + d) = itS T N lo hi s c
  | 0 => rfl
  | d + 1 => by
    show (sL T N lo hi (itS T N lo hi s (c + d))).1 = _
    rw [itS_st2 h d, sL_st h]
theorem secE_st {hd : Int} (h : ¬ s.2 = 0) : secE T N hd lo hi s = s := by
  unfold secE secB
  rw [sL_st h, itS_st h, sL_st h]
theorem menS_st (h : ¬ s.2 = 0) : stp T N s 0 := ⟨fun z => h z.1, fun j hj => absurd hj (Nat.not_lt_zero j)⟩
theorem kd_v (x : Int) : 0 ≤ kd x ∧ kd x ≤ 5 := by
  unfold kd
  repeat' split
  all_goals omega
theorem manE_4 {k : Int} (h : 4 ≤ k) : ¬ (manE T N k s).2 = 0 := by
  unfold manE
  split
  · show ¬ (1 : Int) = 0
    decide
  · show ¬ (3 : Int) = 0
    decide
end PE
theorem fr1 {h : zH} {q j q' : Nat} {v : Int32} (hq : q' ≠ q) : (zSet h q j v).1 q' = h.1 q' := by
  funext j'
  rw [sg1, if_neg hq]
theorem fr2 {h : zH} {q j j' : Nat} {v : Int32} (hj : j' ≠ j) : (zSet h q j v).1 q j' = h.1 q j' := by
  rw [sg1, if_pos rfl, if_neg hj]
theorem fr3 {h : zH} {q j : Nat} {v : Int32} : (zSet h q j v).1 q j = v := by
  rw [sg1, if_pos rfl, if_pos rfl]
theorem tp_set {h : zH} {T : Nat → Int32} {N : Int} {q j : Nat} {v : Int32} (t : tp h T N) (h1 : q ≠ 13) (h2 : q ≠ 14) : tp (zSet h q j v) T N := by
  obtain ⟨t1, t2, t3, t4, t5⟩ := t
  unfold tp
  rw [fr1 (Ne.symm h1), fr1 (Ne.symm h2)]
  exact ⟨t1, t2, t3, t4, t5⟩
theorem rst_set {h : zH} {q j : Nat} {v : Int32} (h1 : q ≠ 13) : rst (zSet h q j v) = rst h := by
  unfold rst
  rw [fr1 (Ne.symm h1)]
theorem q_56 {h : zH} {Q : Option Value → zH → Prop} {T : Nat → Int32} {N : Int} (t : tp h T N) (H : ∀ h', tp h' T N → (∀ q, q ≠ 13 → q ≠ 23 → h'.1 q = h.1 q) → h'.1 13 1 = h.1 13 1 → rst h' = law3 T N (rst h) → (h'.1 23 1).toInt = (law1 T N (rst h)).2 → (h'.1 23 2).toInt = (law2 T N (rst h)).2 → (∀ j, j ≠ 1 → j ≠ 2 → h'.1 23 j = h.1 23 j) → Q none h') : zqm 56 [.ref 13, .ref 23] h Q := by
  refine s_56 ?_
  refine q_64 _ t (by decide) (by decide) (fun h1 t1 r1 => ?_)
  rw [kc_108] at r1
  refine q_66 _ _ t1 (fun v2 h2 t2 r2 e2 => ?_)
  rw [kc_0, kc_14, rdS_st r1] at r2 e2
  refine zri_int ?_
  refine q_64 _ (tp_set t2 (by decide) (by decide)) (by decide) (by decide) (fun h3 t3 r3 => ?_)
  rw [kc_44, rst_set (by decide), rdS_st r2] at r3
  refine q_66 _ _ t3 (fun v4 h4 t4 r4 e4 => ?_)
  rw [kc_0, kc_3, rdS_st r3] at r4 e4
  refine zri_int ?_
  refine q_64 _ (tp_set t4 (by decide) (by decide)) (by decide) (by decide) (fun h5 t5 r5 => ?_)
  rw [kc_59, rst_set (by decide), rdS_st r4] at r5
  refine H h5 t5 (fun q c1 c2 => ?_) ?_ (rdS_st r5) ?_ ?_ (fun j c1 c2 => ?_)
  · rw [r5.1 q c1, fr1 c2, r4.1 q c1, r3.1 q c1, fr1 c2, r2.1 q c1, r1.1 q c1]
  · rw [r5.2.1, fr1 (by decide), r4.2.1, r3.2.1, fr1 (by decide), r2.2.1, r1.2.1]
  · rw [r5.1 23 (by decide), fr2 (by decide), r4.1 23 (by decide), r3.1 23 (by decide), fr3]
    exact e2
  · rw [r5.1 23 (by decide), fr3]
    exact e4
  · rw [r5.1 23 (by decide), fr2 c2, r4.1 23 (by decide), r3.1 23 (by decide), fr2 c1, r2.1 23 (by decide), r1.1 23 (by decide)]
theorem l_57 {Q : Option Value → zH → Prop} {T : Nat → Int32} {N : Int} (x1 : Int32) (g : zH) (s : Int × Int) (H : ∀ (v : Int32) (h' : zH), tp h' T N → rdS g h' (sL T N 59 59 (itS T N 97 100 s 15)).1 → pl v (itV T N 97 100 s) → Q (some (.int v)) h') : ∀ (n c : Nat) (x2 x3 : Int32) (h : zH), x3.toInt = (c : Int) → c ≤ 15 → tp h T N → rdS g h (itS T N 97 100 s c) → pl x2 (fun d => if d < c then itV T N 97 100 s d else 0) → zQ n 57 9 [some (.ref 13), some (.int x1), some (.int x2), some (.int x3)] [] h Q
  | 0, _, _, _, _, _, _, _, _, _ => zQ_zero
  | n + 1, c, x2, x3, h, e3, hc, t, r, p => by
    refine s_57_9 x1 x2 x3 ⟨fun d => ?_, fun d => ?_⟩
    · have c15 : c = 15 := by omega
      subst c15
      refine q_64 _ t (by decide) (by decide) (fun h2 t2 r2 => ?_)
      rw [kc_59, rdS_st r] at r2
      refine H x2 h2 t2 ⟨fun q hq => ?_, ?_, r2.2.2.1, r2.2.2.2⟩ (pl_congr p (fun d hd => if_pos hd))
      · rw [r2.1 q hq, r.1 q hq]
      · rw [r2.2.1, r.2.1]
    · refine q_65 _ _ t (by decide) (by decide) (fun v3 h3 t3 r3 e => ?_)
      rw [kc_97, kc_100, rdS_st r] at r3 e
      refine zri_int ?_
      have hv := sL_v (T := T) (N := N) (lo := 97) (hi := 100) (s := itS T N 97 100 s c) (by decide)
      refine q_49 x2 x3 v3 c e3 (by omega) (fun v4 hb => ?_)
      refine zri_int ?_
      have e3' := ai (x := x3) (k := 1) (by omega) (by omega) (by omega) (by omega)
      refine l_57 x1 g s H n (c + 1) _ _ h3 (by omega) (by omega) t3 ⟨fun q hq => ?_, ?_, r3.2.2.1, r3.2.2.2⟩ ?_
      · rw [r3.1 q hq, r.1 q hq]
      · rw [r3.2.1, r.2.1]
      · refine pl_congr (pl_upd p (by omega) (by omega) (by omega) hb) (fun d hd => ?_)
        by_cases z : d = c
        · rw [if_pos z, if_pos (by omega), e, z]
          rfl
        · rw [if_neg z]
          by_cases y : d < c
          · rw [if_pos y, if_pos (by omega)]
          · rw [if_neg y, if_neg (by omega)]
theorem pl_0 {f : Nat → Int} (h : ∀ c, c < 15 → f c = 0) : pl (Int32.ofInt 0) f := fun c hc => by
  rw [bt_0, bt_0, h c hc]
  decide
theorem q_57 {h : zH} {Q : Option Value → zH → Prop} {T : Nat → Int32} {N : Int} (a1 : Int32) (t : tp h T N) (l0 : 0 ≤ a1.toInt) (l1 : a1.toInt ≤ 1000) (H : ∀ (v : Int32) (h' : zH), tp h' T N → rdS h h' (secE T N a1.toInt 97 100 (rst h)) → pl v (itV T N 97 100 (secB T N a1.toInt (rst h))) → Q (some (.int v)) h') : zqm 57 [.ref 13, .int a1] h Q := by
  refine s_57 a1 (fun n => ?_)
  refine q_64 a1 t l0 l1 (fun h1 t1 r1 => ?_)
  exact l_57 a1 h (secB T N a1.toInt (rst h)) H n 0 _ _ h1 kc_0 (by omega) t1 r1 (pl_0 (fun c hc => if_neg (by omega)))
theorem l_58 {Q : Option Value → zH → Prop} {T : Nat → Int32} {N : Int} (g : zH) (s : Int × Int) (H : ∀ (h' : zH), tp h' T N → (∀ q, q ≠ 13 → q ≠ 24 → h'.1 q = g.1 q) → h'.1 13 1 = g.1 13 1 → rst h' = (sL T N 59 59 (itS T N 101 103 s 15)).1 → (∀ d : Nat, d < 3 → h'.1 24 d = mkm (fun c => decide (itV T N 101 103 s c = (d : Int))) 15) → Q none h') : ∀ (n c : Nat) (x2 : Int32) (o3 : Option Value) (h : zH), x2.toInt = (c : Int) → c ≤ 15 → tp h T N → (∀ q, q ≠ 13 → q ≠ 24 → h.1 q = g.1 q) → h.1 13 1 = g.1 13 1 → rst h = itS T N 101 103 s c → (∀ d : Nat, d < 3 → h.1 24 d = mkm (fun c => decide (itV T N 101 103 s c = (d : Int))) c) → zQ n 58 8 [some (.ref 13), some (.ref 23), some (.int x2), o3] [] h Q
  | 0, _, _, _, _, _, _, _, _, _, _, _ => zQ_zero
  | n + 1, c, x2, o3, h, e2, hc, t, f1, f2, f3, f4 => by
    refine s_58_8 x2 o3 ⟨fun d => ?_, fun d => ?_⟩
    · have c15 : c = 15 := by omega
      subst c15
      refine q_64 _ t (by decide) (by decide) (fun h2 t2 r2 => ?_)
      rw [kc_59, f3] at r2
      refine H h2 t2 (fun q c1 c2 => ?_) ?_ (rdS_st r2) (fun d hd => ?_)
      · rw [r2.1 q c1, f1 q c1 c2]
      · rw [r2.2.1, f2]
      · rw [r2.1 24 (by decide), f4 d hd]
    · refine q_65 _ _ t (by decide) (by decide) (fun v3 h3 t3 r3 e => ?_)
      rw [kc_101, kc_103, f3] at r3 e
      refine zri_int ?_
      have hv := sL_v (T := T) (N := N) (lo := 101) (hi := 103) (s := itS T N 101 103 s c) (by decide)
      have ev : itV T N 101 103 s c = v3.toInt := e.symm
      have e2' := ai (x := x2) (k := 1) (by omega) (by omega) (by omega) (by omega)
      refine ⟨fun z => by exfalso; omega, fun z => ⟨fun y => by exfalso; omega, fun y b1 b2 b3 b4 => ?_⟩⟩
      refine l_58 g s H n (c + 1) _ _ _ (by omega) (by omega) (tp_set t3 (by decide) (by decide)) (fun q c1 c2 => ?_) ?_ ?_ (fun d hd => ?_)
      · rw [fr1 c2, r3.1 q c1, f1 q c1 c2]
      · rw [fr1 (by decide), r3.2.1, f2]
      · rw [rst_set (by decide), rdS_st r3]
        rfl
      · rw [sg1, if_pos rfl]
        by_cases z : d = v3.toInt.toNat
        · rw [if_pos z, ← z, r3.1 24 (by decide)]
          refine mkm_1 (f4 d hd) e2 (by omega) (decide_eq_true ?_)
          rw [ev]
          omega
        · rw [if_neg z, r3.1 24 (by decide), f4 d hd]
          show _ = mkm _ c ||| (if _ then _ else _)
          rw [if_neg (by
            rw [decide_eq_true_eq, ev]
            omega)]
          refine b_ext (fun i hi => ?_)
          rw [b_or, bt_0, Bool.or_false]
theorem q_58 {h : zH} {Q : Option Value → zH → Prop} {T : Nat → Int32} {N : Int} (t : tp h T N) (z24 : ∀ d : Nat, d < 3 → h.1 24 d = Int32.ofInt 0) (H : ∀ (h' : zH), tp h' T N → (∀ q, q ≠ 13 → q ≠ 24 → h'.1 q = h.1 q) → h'.1 13 1 = h.1 13 1 → rst h' = secE T N 99 101 103 (rst h) → (∀ d : Nat, d < 3 → h'.1 24 d = mkm (fun c => decide (itV T N 101 103 (secB T N 99 (rst h)) c = (d : Int))) 15) → Q none h') : zqm 58 [.ref 13, .ref 23] h Q := by
  refine s_58 (fun n => ?_)
  refine q_64 _ t (by decide) (by decide) (fun h1 t1 r1 => ?_)
  rw [kc_99] at r1
  refine l_58 h (secB T N 99 (rst h)) H n 0 _ _ h1 kc_0 (by omega) t1 (fun q c1 c2 => r1.1 q c1) r1.2.1 (rdS_st r1) (fun d hd => ?_)
  rw [r1.1 24 (by decide), z24 d hd]
  rfl
theorem q_60 {h : zH} {Q : Option Value → zH → Prop} (a0 : Int32) (H : ∀ v : Int32, v.toInt = kd a0.toInt → Q (some (.int v)) h) : zqm 60 [.int a0] h Q := by
  refine s_60 a0 ⟨fun c => H _ ?_, fun c => H _ ?_, fun c => H _ ?_, fun c => H _ ?_, fun c => H _ ?_, fun c => H _ ?_⟩
  · rw [c]; decide
  · rw [c]; decide
  · rw [c]; decide
  · rw [c]; decide
  · rw [c]; decide
  · unfold kd
    rw [if_neg (by omega), if_neg (by omega), if_neg (by omega), if_neg (by omega), if_neg (by omega)]
    decide
/-- a surveyor is read -/
theorem q_59 {h : zH} {Q : Option Value → zH → Prop} {T : Nat → Int32} {N : Int} (t : tp h T N) (k : Nat) (k4 : k ≤ 4) (em : (h.1 23 6).toInt = (k : Int)) (f0 : (h.1 13 3).toInt = 0) (a0 : (h.1 13 2).toInt < N)
    (H : ∀ h', tp h' T N → (∀ q, q ≠ 13 → q ≠ 23 → q ≠ 25 → q ≠ 26 → q ≠ 27 → h'.1 q = h.1 q) → h'.1 13 1 = h.1 13 1 → rst h' = manE T N (k : Int) (rst h) → ((manE T N (k : Int) (rst h)).2 = 0 → (∀ j, j ≠ 6 → h'.1 23 j = h.1 23 j) ∧ (h'.1 23 6).toInt = (k : Int) + 1 ∧ (∀ j, j ≠ k → h'.1 25 j = h.1 25 j ∧ h'.1 26 j = h.1 26 j ∧ h'.1 27 j = h.1 27 j) ∧ (h'.1 25 k).toInt = kd (pk T N (rst h).1) ∧ (h'.1 26 k).toInt = (man1 T N (rst h)).2 ∧ (h'.1 27 k).toInt = (man2 T N (rst h)).2) → Q none h') : zqm 59 [.ref 13, .ref 23] h Q := by
  obtain ⟨t1, t2, t3, t4, t5⟩ := id t
  have fl : ∀ f : Int, ∀ w : Int32, w.toInt = f → ¬ f = 0 → manE T N (k : Int) (rst h) = ((rst h).1, f) → Q none (zSet h 13 3 w) := fun f w ew hf e => by
    have r := rdS_f (h := h) (k := w) (a := (rst h).1) rfl
    rw [ew] at r
    refine H _ (rdS_tp r t t4 t5) (fun q c1 c2 c3 c4 c5 => fr1 c1) (fr2 (by decide)) ?_ (fun z => ?_)
    · rw [e]; exact rdS_st r
    · rw [e] at z
      exact absurd z hf
  refine s_59 ?_
  refine q_62 t (fun c v hv => ?_) (fun c => by exfalso; omega)
  refine zri_int ?_
  have ep : pk T N (rst h).1 = v.toInt := by
    show pk T N (h.1 13 2).toInt = _
    rw [pki ⟨t4, c⟩, hv]
  refine q_60 v (fun v2 e2 => ?_)
  refine zri_int ?_
  rw [← ep] at e2
  have n4 : k < 4 → (h.1 23 6).toInt.toNat = k := fun _ => by omega
  refine ⟨fun d => ⟨fun g => by exfalso; omega, fun g => ⟨fun l => ?_, fun l => ?_⟩⟩, fun d => ?_⟩
  · have hm : manE T N (k : Int) (rst h) = man3 T N (rst h) := by
      unfold manE
      rw [if_neg (by omega), if_neg (by omega)]
    have ek := n4 (by omega)
    have hn : pk T N (rst h).1 = 107 ∨ pk T N (rst h).1 = 111 ∨ pk T N (rst h).1 = 112 ∨ pk T N (rst h).1 = 121 ∨ pk T N (rst h).1 = 122 := by
      apply Decidable.byContradiction
      intro z
      have : kd (pk T N (rst h).1) = 0 := by
        unfold kd
        rw [if_neg (by omega), if_neg (by omega), if_neg (by omega), if_neg (by omega), if_neg (by omega)]
      omega
    refine q_62 t (fun c v' hv' => ?_) (fun c => by exfalso; omega)
    refine zri_int ?_
    have ev : v' = v := by rw [hv', hv]
    subst ev
    refine q_64 v' t (by omega) (by omega) (fun h8 t8 r8 => ?_)
    have e8 : sL T N v'.toInt v'.toInt (rst h) = (((rst h).1 + 1, 0), pk T N (rst h).1 - v'.toInt) := sL_ok f0 (by omega)
    rw [e8] at r8
    have r8 : rdS h h8 ((rst h).1 + 1, 0) := r8
    intro _ _
    refine q_66 _ _ (tp_set t8 (by decide) (by decide)) (fun v10 h10 t10 r10 e10 => ?_)
    rw [kc_0, kc_2, rst_set (by decide), rdS_st r8] at r10 e10
    refine zri_int ?_
    intro _ _
    refine q_64 _ (tp_set t10 (by decide) (by decide)) (by decide) (by decide) (fun h12 t12 r12 => ?_)
    rw [kc_44, rst_set (by decide), rdS_st r10] at r12
    refine q_66 _ _ t12 (fun v13 h13 t13 r13 e13 => ?_)
    rw [kc_1, kc_5, rdS_st r12] at r13 e13
    refine zri_int ?_
    intro _ _
    refine q_64 _ (tp_set t13 (by decide) (by decide)) (by decide) (by decide) (fun h15 t15 r15 => ?_)
    rw [kc_59, rst_set (by decide), rdS_st r13] at r15
    have c23 : h15.1 23 = h.1 23 := by rw [r15.1 23 (by decide), fr1 (by decide), r13.1 23 (by decide), r12.1 23 (by decide), fr1 (by decide), r10.1 23 (by decide), fr1 (by decide), r8.1 23 (by decide)]
    have e6 : (h15.1 23 6 + Int32.ofInt 1).toInt = (k : Int) + 1 := by
      rw [c23, ai (by omega) (by omega) (by omega) (by omega), em]
    refine H _ (tp_set t15 (by decide) (by decide)) (fun q c1 c2 c3 c4 c5 => ?_) ?_ ?_ (fun _ => ⟨fun j hj => ?_, ?_, fun j hj => ⟨?_, ?_, ?_⟩, ?_, ?_, ?_⟩)
    · rw [fr1 c2, r15.1 q c1, fr1 c5, r13.1 q c1, r12.1 q c1, fr1 c4, r10.1 q c1, fr1 c3, r8.1 q c1]
    · rw [fr1 (by decide), r15.2.1, fr1 (by decide), r13.2.1, r12.2.1, fr1 (by decide), r10.2.1, fr1 (by decide), r8.2.1]
    · rw [rst_set (by decide), rdS_st r15, hm]
      rfl
    · rw [fr2 hj, c23]
    · rw [fr3, e6]
    · rw [fr1 (by decide), r15.1 25 (by decide), fr1 (by decide), r13.1 25 (by decide), r12.1 25 (by decide), fr1 (by decide), r10.1 25 (by decide), fr2 (by omega), r8.1 25 (by decide)]
    · rw [fr1 (by decide), r15.1 26 (by decide), fr1 (by decide), r13.1 26 (by decide), r12.1 26 (by decide), fr2 (by omega), r10.1 26 (by decide), fr1 (by decide), r8.1 26 (by decide)]
    · rw [fr1 (by decide), r15.1 27 (by decide), fr2 (by omega), r13.1 27 (by decide), r12.1 27 (by decide), fr1 (by decide), r10.1 27 (by decide), fr1 (by decide), r8.1 27 (by decide)]
    · rw [fr1 (by decide), r15.1 25 (by decide), fr1 (by decide), r13.1 25 (by decide), r12.1 25 (by decide), fr1 (by decide), r10.1 25 (by decide), ek, fr3, e2]
    · rw [fr1 (by decide), r15.1 26 (by decide), fr1 (by decide), r13.1 26 (by decide), r12.1 26 (by decide), ek, fr3]
      exact e10
    · rw [fr1 (by decide), r15.1 27 (by decide), ek, fr3]
      exact e13
  · refine q_61 _ f0 (fl 3 _ kc_3 (by decide) ?_)
    unfold manE
    rw [if_neg (by omega), if_pos (by omega)]
  · refine q_61 _ f0 (fl 1 _ kc_1 (by decide) ?_)
    unfold manE
    rw [if_pos (by omega)]

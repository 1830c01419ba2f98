/-! the parts of a text, by the reference -/
section PH
variable {T : Nat → Int32} {N : Int} {s : Int × Int}
theorem law_d (h : ¬ (law2 T N s).1.2 = 0) : law3 T N s = (law2 T N s).1 := by
  unfold law3
  rw [sL_st h]
theorem law_c (h : ¬ (sL T N 44 44 (law1 T N s).1).1.2 = 0) : law3 T N s = (sL T N 44 44 (law1 T N s).1).1 := by
  have e : law2 T N s = ((sL T N 44 44 (law1 T N s).1).1, 0) := sN_st h
  have := law_d (T := T) (N := N) (s := s) (by rw [e]; exact h)
  rw [this, e]
theorem law_b (h : ¬ (law1 T N s).1.2 = 0) : law3 T N s = (law1 T N s).1 := by
  have e : sL T N 44 44 (law1 T N s).1 = ((law1 T N s).1, 0) := sL_st h
  have := law_c (T := T) (N := N) (s := s) (by rw [e]; exact h)
  rw [this, e]
theorem law_a (h : ¬ (sL T N 108 108 s).1.2 = 0) : law3 T N s = (sL T N 108 108 s).1 := by
  have e : law1 T N s = ((sL T N 108 108 s).1, 0) := sN_st h
  have := law_b (T := T) (N := N) (s := s) (by rw [e]; exact h)
  rw [this, e]
theorem man_d (h : ¬ (man2 T N s).1.2 = 0) : man3 T N s = (man2 T N s).1 := by
  unfold man3
  rw [sL_st h]
theorem man_c (h : ¬ (sL T N 44 44 (man1 T N s).1).1.2 = 0) : man3 T N s = (sL T N 44 44 (man1 T N s).1).1 := by
  have e : man2 T N s = ((sL T N 44 44 (man1 T N s).1).1, 0) := sN_st h
  have := man_d (T := T) (N := N) (s := s) (by rw [e]; exact h)
  rw [this, e]
theorem man_b (h : ¬ (man1 T N s).1.2 = 0) : man3 T N s = (man1 T N s).1 := by
  have e : sL T N 44 44 (man1 T N s).1 = ((man1 T N s).1, 0) := sL_st h
  have := man_c (T := T) (N := N) (s := s) (by rw [e]; exact h)
  rw [this, e]
end PH
theorem rg_st {h h' : zH} {s : Int × Int} (r : rgS h h' s) (e : s.2 = 0) : ((h'.1 58 7).toInt, (0 : Int)) = s := Prod.ext r.2.2.1 e.symm
theorem q_141 {h : zH} {Q : Option Value → zH → Prop} {T : Nat → Int32} {N : Int} (t : tq h T N) (s : Int × Int) (es : ((h.1 58 7).toInt, (0 : Int)) = s) (H : ∀ h', tq h' T N → rgS h h' (law3 T N s) → ((law3 T N s).2 = 0 → (h'.1 63 58).toInt = (law1 T N s).2 ∧ (h'.1 63 59).toInt = (law2 T N s).2 ∧ ∀ j, j ≠ 58 → j ≠ 59 → h'.1 63 j = h.1 63 j) → Q (some (.int (zbo ((law3 T N s).2 = 0)))) h') : zqm 141 [.ref 58] h Q := by
  -- an end with a fault
  have E : ∀ (g : zH), tq g T N → rgS h g (law3 T N s) → ¬ (law3 T N s).2 = 0 → Q (some (.int (Int32.ofInt 0))) g := fun g tg rg z => by
    have := H g tg rg (fun y => absurd y z)
    rw [zbF z] at this
    exact this
  refine s_141 ?_
  refine q_139 _ t (by decide) (fun h1 t1 r1 => ?_)
  rw [kc_108, es] at r1 ⊢
  refine zri_int ?_
  refine ⟨fun c => ?_, fun c => ?_⟩
  · have c := zb0.mp c
    have e := law_a c
    exact E h1 t1 (by rw [e]; exact r1.1) (by rw [e]; exact c)
  have c := zb1.mp c
  refine q_140 _ _ t1 (fun h3 t3 r3 v3 => ?_)
  rw [kc_0, kc_14, rg_st r1.1 c] at r3 v3 ⊢
  refine zri_int ?_
  have R3 := rgS_tr r1.1 c r3.1
  refine ⟨fun d => ?_, fun d => ?_⟩
  · have d := zb1.mp d
    have v3 := v3 d
    refine q_139 _ (tq_63 t3) (by decide) (fun h5 t5 r5 => ?_)
    rw [kc_44, fr1 (show (58 : Nat) ≠ 63 by decide), rg_st r3.1 d] at r5 ⊢
    refine zri_int ?_
    have R5 := rgS_tr (rgS_63 (j := 58) (v := h3.1 58 8) R3) d r5.1
    refine ⟨fun g => ?_, fun g => ?_⟩
    · have g := zb0.mp g
      have e := law_c g
      exact E h5 t5 (by rw [e]; exact R5) (by rw [e]; exact g)
    have g := zb1.mp g
    refine q_140 _ _ t5 (fun h7 t7 r7 v7 => ?_)
    rw [kc_0, kc_3, rg_st r5.1 g] at r7 v7 ⊢
    refine zri_int ?_
    have R7 := rgS_tr R5 g r7.1
    refine ⟨fun l => ?_, fun l => ?_⟩
    · have l := zb1.mp l
      have v7 := v7 l
      refine q_139 _ (tq_63 t7) (by decide) (fun h9 t9 r9 => ?_)
      rw [kc_59, fr1 (show (58 : Nat) ≠ 63 by decide), rg_st r7.1 l] at r9 ⊢
      refine zri_int ?_
      have R9 := rgS_tr (rgS_63 (j := 59) (v := h7.1 58 8) R7) l r9.1
      refine H h9 t9 R9 (fun z => ⟨?_, ?_, fun j c1 c2 => ?_⟩)
      · rw [r9.2, fr2 (by decide), r7.2, r5.2, fr3]
        exact v3
      · rw [r9.2, fr3]
        exact v7
      · rw [r9.2, fr2 c2, r7.2, r5.2, fr2 c1, r3.2, r1.2]
    · have l := zb2.mp l
      have e := law_d l
      exact E h7 t7 (by rw [e]; exact R7) (by rw [e]; exact l)
  · have d := zb2.mp d
    have e := law_b d
    exact E h3 t3 (by rw [e]; exact R3) (by rw [e]; exact d)
theorem l_142 {Q : Option Value → zH → Prop} {T : Nat → Int32} {N : Int} (x1 x2 x3 x4 : Int32) (g : zH) (s : Int × Int) (lo hi : Int) (to : Nat) (e2 : x2.toInt = lo) (e23 : ((x2 + x3) - Int32.ofInt 1).toInt = hi) (e4 : x4.toInt = (to : Int)) (lo0 : 0 ≤ lo) (lo1 : lo ≤ hi) (hi1 : hi ≤ 1000) (t62 : to + 15 ≤ 62)
    (H : ∀ h', tq h' T N → rgS g h' (sL T N 59 59 (itS T N lo hi s 15)).1 → ((sL T N 59 59 (itS T N lo hi s 15)).1.2 = 0 → (∀ c : Nat, c < 15 → (h'.1 63 (to + c)).toInt = itV T N lo hi s c) ∧ ∀ j, (j < to ∨ to + 15 ≤ j) → h'.1 63 j = g.1 63 j) → Q (some (.int (zbo ((sL T N 59 59 (itS T N lo hi s 15)).1.2 = 0)))) h') :
    ∀ (n c : Nat) (x5 : Int32) (h : zH), x5.toInt = (c : Int) → c ≤ 15 → tq h T N → rgS g h (itS T N lo hi s c) → (itS T N lo hi s c).2 = 0 → (∀ j : Nat, j < c → (h.1 63 (to + j)).toInt = itV T N lo hi s j) → (∀ j, (j < to ∨ to + 15 ≤ j) → h.1 63 j = g.1 63 j) → zQ n 142 13 [some (.ref 58), some (.int x1), some (.int x2), some (.int x3), some (.int x4), some (.int x5)] [] h Q
  | 0, _, _, _, _, _, _, _, _, _, _ => zQ_zero
  | n + 1, c, x5, h, e5, hc, t, r, f0, w1, w2 => by
    obtain ⟨t1, t2, t3, t4, t5⟩ := id t
    have sc := rg_st r f0
    refine s_142_13 x1 x2 x3 x4 x5 ⟨fun d => ?_, fun d => ?_⟩
    · have c15 : c = 15 := by omega
      subst c15
      refine q_139 _ t (by decide) (fun h2 tt r2 => ?_)
      rw [kc_59, sc] at r2 ⊢
      refine zri_int ?_
      refine H h2 tt (rgS_tr r f0 r2.1) (fun _ => ⟨fun j hj => ?_, fun j hj => ?_⟩)
      · rw [r2.2]; exact w1 j hj
      · rw [r2.2]; exact w2 j hj
    · refine q_136 t (fun v3 ev => ?_)
      refine zri_int ?_
      refine q_121 _ _ _ ?_
      refine zri_int ?_
      rw [e2, e23]
      have ea : (h.1 58 7).toInt = (itS T N lo hi s c).1 := r.2.2.1
      rw [ea] at ev
      refine ⟨fun z => ?_, fun z => ?_⟩
      · have z := zb1.mp z
        refine q_136 t (fun v6 ev6 => ?_)
        refine zri_int ?_
        rw [ea] at ev6
        have es : sL T N lo hi (itS T N lo hi s c) = (((itS T N lo hi s c).1 + 1, 0), pk T N (itS T N lo hi s c).1 - lo) := sL_ok f0 (by omega)
        have e45 : (x4 + x5).toInt = ((to + c : Nat) : Int) := by rw [wk_add e4 e5 (by omega) (by omega)]; omega
        rw [e45]
        intro b1 b2
        have e5' := ai (x := x5) (k := 1) (by omega) (by omega) (by omega) (by omega)
        have e7 : (h.1 58 7 + Int32.ofInt 1).toInt = (itS T N lo hi s c).1 + 1 := by rw [ai (by omega) (by omega) (by omega) (by omega), ea]
        have en : (((to + c : Nat) : Int)).toNat = to + c := by omega
        rw [en]
        have iS : itS T N lo hi s (c + 1) = ((itS T N lo hi s c).1 + 1, 0) := by
          show (sL T N lo hi (itS T N lo hi s c)).1 = _
          rw [es]
        have hin := sL_in (T := T) (hi := hi) (s := itS T N lo hi s c) lo0 (by omega) (by rw [← ea]; exact t5)
        rw [es] at hin
        have R : rgS g (zSet (zSet h 63 (to + c) (v6 - x2)) 58 7 (h.1 58 7 + Int32.ofInt 1)) (itS T N lo hi s (c + 1)) := by
          rw [iS]
          have r0 := rfS_a (h := zSet h 63 (to + c) (v6 - x2)) e7
          exact rgS_tr (rgS_63 r) f0 r0.1
        have TT : tq (zSet (zSet h 63 (to + c) (v6 - x2)) 58 7 (h.1 58 7 + Int32.ofInt 1)) T N := rgS_tq (rfS_a (h := zSet h 63 (to + c) (v6 - x2)) e7).1 (tq_63 t) hin.1 hin.2
        refine l_142 x1 x2 x3 x4 g s lo hi to e2 e23 e4 lo0 lo1 hi1 t62 H n (c + 1) _ _ (by omega) (by omega) TT R (by rw [iS]) (fun j hj => ?_) (fun j hj => ?_)
        · rw [fr1 (by decide)]
          by_cases y : j = c
          · subst y
            rw [fr3]
            show _ = (sL T N lo hi (itS T N lo hi s j)).2
            rw [es]
            show (v6 - x2).toInt = pk T N (itS T N lo hi s j).1 - lo
            rw [← ev6, ← e2]
            exact wk_sub rfl rfl (by omega) (by omega)
          · rw [fr2 (by omega)]
            exact w1 j (by omega)
        · rw [fr1 (by decide), fr2 (by omega)]
          exact w2 j hj
      · have z := zb2.mp z
        have es : sL T N lo hi (itS T N lo hi s c) = (((itS T N lo hi s c).1, 1), 0) := sL_no f0 (by omega)
        have iS : itS T N lo hi s (c + 1) = ((itS T N lo hi s c).1, 1) := by
          show (sL T N lo hi (itS T N lo hi s c)).1 = _
          rw [es]
        have nz : ¬ (itS T N lo hi s (c + 1)).2 = 0 := by rw [iS]; show ¬ (1 : Int) = 0; decide
        have i15 : itS T N lo hi s 15 = ((itS T N lo hi s c).1, 1) := by
          have := itS_st2 nz (14 - c)
          rw [show c + 1 + (14 - c) = 15 by omega] at this
          rw [this, iS]
        have eE : (sL T N 59 59 (itS T N lo hi s 15)).1 = ((itS T N lo hi s c).1, 1) := by
          rw [i15, sL_st (by show ¬ (1 : Int) = 0; decide)]
        refine q_138 _ ?_
        refine zri_int ?_
        have r0 : rfS h (zSet h 58 6 (Int32.ofInt 1)) ((itS T N lo hi s c).1, 1) := rfS_f kc_1 (by decide) ea
        rw [eE] at H
        have := H _ (rgS_tq r0.1 t (by rw [← ea]; exact t4) (by rw [← ea]; exact t5)) (rgS_tr r f0 r0.1) (fun z => absurd z (by show ¬ (1 : Int) = 0; decide))
        rw [zbF (by show ¬ (1 : Int) = 0; decide)] at this
        exact this
theorem q_142 {h : zH} {Q : Option Value → zH → Prop} {T : Nat → Int32} {N : Int} (a1 a2 a3 a4 : Int32) (t : tq h T N) (s : Int × Int) (es : ((h.1 58 7).toInt, (0 : Int)) = s) (hd lo hi : Int) (to : Nat) (e1 : a1.toInt = hd) (e2 : a2.toInt = lo) (e23 : ((a2 + a3) - Int32.ofInt 1).toInt = hi) (e4 : a4.toInt = (to : Int)) (hd0 : 0 ≤ hd) (lo0 : 0 ≤ lo) (lo1 : lo ≤ hi) (hi1 : hi ≤ 1000) (t62 : to + 15 ≤ 62)
    (H : ∀ h', tq h' T N → rgS h h' (secE T N hd lo hi s) → ((secE T N hd lo hi s).2 = 0 → (∀ c : Nat, c < 15 → (h'.1 63 (to + c)).toInt = itV T N lo hi (secB T N hd s) c) ∧ ∀ j, (j < to ∨ to + 15 ≤ j) → h'.1 63 j = h.1 63 j) → Q (some (.int (zbo ((secE T N hd lo hi s).2 = 0)))) h') : zqm 142 [.ref 58, .int a1, .int a2, .int a3, .int a4] h Q := by
  refine s_142 a1 a2 a3 a4 (fun n => ?_)
  refine q_139 a1 t (by omega) (fun h1 t1 r1 => ?_)
  rw [e1, es] at r1 ⊢
  refine zri_int ?_
  refine ⟨fun c => ?_, fun c => ?_⟩
  · have c := zb1.mp c
    refine l_142 a1 a2 a3 a4 h (secB T N hd s) lo hi to e2 e23 e4 lo0 lo1 hi1 t62 H n 0 _ h1 kc_0 (by omega) t1 r1.1 c (fun j hj => absurd hj (Nat.not_lt_zero j)) (fun j _ => by rw [r1.2])
  · have c : ¬ (secB T N hd s).2 = 0 := zb2.mp c
    have e : secE T N hd lo hi s = secB T N hd s := by
      unfold secE
      rw [itS_st c, sL_st c]
    rw [e] at H
    have := H h1 t1 r1.1 (fun z => absurd z c)
    rw [zbF c] at this
    exact this
theorem q_143 {h : zH} {Q : Option Value → zH → Prop} (a0 : Int32) (k1 : ¬ kd a0.toInt = 0 → ∀ v : Int32, v.toInt = kd a0.toInt → Q (some (.int v)) h) (k2 : kd a0.toInt = 0 → Q (some (.int (Int32.ofInt (-1)))) h) : zqm 143 [.int a0] h Q := by
  refine s_143 a0 ⟨fun c => ?_, fun c => ?_, fun c => ?_, fun c => ?_, fun c => ?_, fun c => k2 ?_⟩
  · rw [c] at k1; exact k1 (by decide) _ (by decide)
  · rw [c] at k1; exact k1 (by decide) _ (by decide)
  · rw [c] at k1; exact k1 (by decide) _ (by decide)
  · rw [c] at k1; exact k1 (by decide) _ (by decide)
  · rw [c] at k1; exact k1 (by decide) _ (by decide)
  · unfold kd
    rw [if_neg (by omega), if_neg (by omega), if_neg (by omega), if_neg (by omega), if_neg (by omega)]
/-- a surveyor, by the reference -/
theorem q_144 {h : zH} {Q : Option Value → zH → Prop} {T : Nat → Int32} {N : Int} (t : tq h T N) (s : Int × Int) (es : ((h.1 58 7).toInt, (0 : Int)) = s) (k : Nat) (k4 : k ≤ 4) (em : (h.1 63 57).toInt = (k : Int)) (a0 : s.1 < N)
    (H : ∀ h', tq h' T N → rgS h h' (manE T N (k : Int) s) → ((manE T N (k : Int) s).2 = 0 → (h'.1 63 57).toInt = (k : Int) + 1 ∧ (h'.1 63 (45 + 3 * k)).toInt = kd (pk T N s.1) ∧ (h'.1 63 (45 + 3 * k + 1)).toInt = (man1 T N s).2 ∧ (h'.1 63 (45 + 3 * k + 2)).toInt = (man2 T N s).2 ∧ ∀ j, j ≠ 57 → (j < 45 + 3 * k ∨ 45 + 3 * k + 3 ≤ j) → h'.1 63 j = h.1 63 j) → Q (some (.int (zbo ((manE T N (k : Int) s).2 = 0)))) h') : zqm 144 [.ref 58] h Q := by
  obtain ⟨t1, t2, t3, t4, t5⟩ := id t
  have ea : (h.1 58 7).toInt = s.1 := by rw [← es]
  have E : ∀ (g : zH), tq g T N → rgS h g (manE T N (k : Int) s) → ¬ (manE T N (k : Int) s).2 = 0 → Q (some (.int (Int32.ofInt 0))) g := fun g tg rg z => by
    have := H g tg rg (fun y => absurd y z)
    rw [zbF z] at this
    exact this
  refine s_144 ?_
  refine q_136 t (fun v1 e1 => ?_)
  refine zri_int ?_
  rw [ea] at e1
  refine q_143 v1 (fun c v2 e2 => ?_) (fun c => ?_)
  · refine zri_int ?_
    rw [e1] at e2 c
    have kv := kd_v (pk T N s.1)
    refine ⟨fun d => ⟨fun g => ?_, fun g => ?_⟩, fun d => by exfalso; omega⟩
    · have k3 : k < 4 := by omega
      have hm : manE T N (k : Int) s = man3 T N s := by
        unfold manE
        rw [if_neg c, if_neg (by omega)]
      have m3 : (Int32.ofInt 3 * h.1 63 57).toInt = 3 * (k : Int) := by rw [mi (by omega) (by omega) (by omega) (by omega), em]
      have m45 : (Int32.ofInt 45 + Int32.ofInt 3 * h.1 63 57).toInt = ((45 + 3 * k : Nat) : Int) := by rw [wk_add kc_45 m3 (by omega) (by omega)]; omega
      have m46 : (Int32.ofInt 45 + Int32.ofInt 3 * h.1 63 57 + Int32.ofInt 1).toInt = ((45 + 3 * k + 1 : Nat) : Int) := by rw [wk_add m45 kc_1 (by omega) (by omega)]; omega
      have m47 : (Int32.ofInt 45 + Int32.ofInt 3 * h.1 63 57 + Int32.ofInt 2).toInt = ((45 + 3 * k + 2 : Nat) : Int) := by rw [wk_add m45 kc_2 (by omega) (by omega)]; omega
      have n45 : (((45 + 3 * k : Nat) : Int)).toNat = 45 + 3 * k := by omega
      have n46 : (((45 + 3 * k + 1 : Nat) : Int)).toNat = 45 + 3 * k + 1 := by omega
      have n47 : (((45 + 3 * k + 2 : Nat) : Int)).toNat = 45 + 3 * k + 2 := by omega
      rw [m45, m46, m47, n45, n46, n47]
      intro b1 b2
      have e7 : (h.1 58 7 + Int32.ofInt 1).toInt = s.1 + 1 := by rw [ai (by omega) (by omega) (by omega) (by omega), ea]
      have r2 := rfS_a (h := zSet h 63 (45 + 3 * k) v2) e7
      have R2 : rgS h (zSet (zSet h 63 (45 + 3 * k) v2) 58 7 (h.1 58 7 + Int32.ofInt 1)) (s.1 + 1, 0) := rgS_tr (s1 := ((h.1 58 7).toInt, 0)) (rgS_63 rgS_rf) rfl r2.1
      have T2 : tq (zSet (zSet h 63 (45 + 3 * k) v2) 58 7 (h.1 58 7 + Int32.ofInt 1)) T N := rgS_tq R2 t (by show 0 ≤ s.1 + 1; omega) (by show s.1 + 1 ≤ N; omega)
      refine q_140 _ _ T2 (fun h6 t6 r6 v6 => ?_)
      rw [kc_0, kc_2, rg_st R2 rfl] at r6 v6 ⊢
      refine zri_int ?_
      have R6 := rgS_tr R2 rfl r6.1
      refine ⟨fun l => ?_, fun l => ?_⟩
      · have l := zb1.mp l
        have v6 := v6 l
        intro b3 b4
        refine q_139 _ (tq_63 t6) (by decide) (fun h9 t9 r9 => ?_)
        rw [kc_44, fr1 (show (58 : Nat) ≠ 63 by decide), rg_st r6.1 l] at r9 ⊢
        refine zri_int ?_
        have R9 := rgS_tr (rgS_63 (j := 45 + 3 * k + 1) (v := h6.1 58 8) R6) l r9.1
        refine ⟨fun z => ?_, fun z => ?_⟩
        · have z := zb0.mp z
          have e := man_c z
          exact E h9 t9 (by rw [hm, e]; exact R9) (by rw [hm, e]; exact z)
        have z := zb1.mp z
        refine q_140 _ _ t9 (fun h11 t11 r11 v11 => ?_)
        rw [kc_1, kc_5, rg_st r9.1 z] at r11 v11 ⊢
        refine zri_int ?_
        have R11 := rgS_tr R9 z r11.1
        refine ⟨fun y => ?_, fun y => ?_⟩
        · have y := zb1.mp y
          have v11 := v11 y
          intro b5 b6
          refine q_139 _ (tq_63 (tq_63 t11)) (by decide) (fun h14 t14 r14 => ?_)
          rw [kc_59, fr1 (show (58 : Nat) ≠ 63 by decide), fr1 (show (58 : Nat) ≠ 63 by decide), rg_st r11.1 y] at r14 ⊢
          refine zri_int ?_
          have R14 := rgS_tr (rgS_63 (rgS_63 R11)) y r14.1
          have c57 : h11.1 63 57 = h.1 63 57 := by rw [r11.2, r9.2, fr2 (by omega), r6.2, fr1 (by decide), fr2 (by omega)]
          have main := H h14 t14 (by rw [hm]; exact R14) (fun _ => by
            refine ⟨?_, ?_, ?_, ?_, fun j c1 c2 => ?_⟩
            · rw [r14.2, fr3, fr2 (by omega), c57, ai (by omega) (by omega) (by omega) (by omega), em]
            · rw [r14.2, fr2 (by omega), fr2 (by omega), r11.2, r9.2, fr2 (by omega), r6.2, fr1 (by decide), fr3]
              exact e2
            · rw [r14.2, fr2 (by omega), fr2 (by omega), r11.2, r9.2, fr3]
              exact v6
            · rw [r14.2, fr2 (by omega), fr3]
              exact v11
            · rw [r14.2, fr2 c1, fr2 (by omega), r11.2, r9.2, fr2 (by omega), r6.2, fr1 (by decide), fr2 (by omega)])
          rw [hm] at main
          exact main
        · have y := zb2.mp y
          have e := man_d y
          exact E h11 t11 (by rw [hm, e]; exact R11) (by rw [hm, e]; exact y)
      · have l := zb2.mp l
        have e := man_b l
        exact E h6 t6 (by rw [hm, e]; exact R6) (by rw [hm, e]; exact l)
    · have hm : manE T N (k : Int) s = (s.1, 3) := by
        unfold manE
        rw [if_neg c, if_pos (by omega)]
      refine q_138 _ ?_
      refine zri_int ?_
      have r0 : rfS h (zSet h 58 6 (Int32.ofInt 3)) (s.1, 3) := rfS_f kc_3 (by decide) ea
      exact E _ (rgS_tq r0.1 t (by omega) (by omega)) (by rw [hm]; exact r0.1) (by rw [hm]; show ¬ (3 : Int) = 0; decide)
  · refine zri_int ?_
    rw [e1] at c
    have hm : manE T N (k : Int) s = (s.1, 1) := by
      unfold manE
      rw [if_pos c]
    refine ⟨fun d => absurd d (by decide), fun d => ?_⟩
    refine q_138 _ ?_
    refine zri_int ?_
    have r0 : rfS h (zSet h 58 6 (Int32.ofInt 1)) (s.1, 1) := rfS_f kc_1 (by decide) ea
    exact E _ (rgS_tq r0.1 t (by omega) (by omega)) (by rw [hm]; exact r0.1) (by rw [hm]; show ¬ (1 : Int) = 0; decide)

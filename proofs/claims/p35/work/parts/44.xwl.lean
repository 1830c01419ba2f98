/-! all sets that fit: the class -/
theorem cPa {p : Nat → Bool} {L : List Nat} {k : Nat} : (L ++ [k]).countP p = L.countP p + (if p k = true then 1 else 0) := by
  rw [List.countP_append, List.countP_cons, List.countP_nil, Nat.zero_add]
theorem cPl {p : Nat → Bool} {L : List Nat} : L.countP p ≤ L.length := List.countP_le_length
theorem ll1 {L : List Nat} {k : Nat} : (L ++ [k]).length = L.length + 1 := by rw [List.length_append]; rfl
def fsA (h g : zH) (F : Nat → Bool) (L : List Nat) : Prop := (∀ q : Nat, q ≠ 55 → q ≠ 56 → h.1 q = g.1 q) ∧ (h.1 55 1).toInt = ((L.countP F : Nat) : Int) ∧ (∀ c : Nat, c < 15 → (h.1 56 c).toInt = ((L.countP (fun k => F k && k.testBit c) : Nat) : Int)) ∧ bsC F L (h.1 55 2).toInt
theorem q_35 {h : zH} {Q : Option Value → zH → Prop} (a0 a1 : Int32) (k b : Nat) (e0 : a0.toInt = (k : Int)) (hk : k < 32768) (e1 : a1.toInt = (b : Int)) (hb : b < 32768) (H : Q (some (.int (zbo (ky k < ky b)))) h) : zqm 35 [.int a0, .int a1] h Q := by
  have lk := cnt_le (fun i => k.testBit i) 15
  have lb := cnt_le (fun i => b.testBit i) 15
  have lk : cb2 k ≤ 15 := lk
  have lb : cb2 b ≤ 15 := lb
  unfold ky at H
  refine s_35 a0 a1 ?_
  refine q_217k a0 k e0 hk (fun v1 ev1 => ?_)
  refine zri_int ?_
  refine q_217k a1 b e1 hb (fun v2 ev2 => ?_)
  refine zri_int ?_
  rw [wk_sub ev1 ev2 (by omega) (by omega)]
  refine ⟨fun z => ?_, fun z => ⟨fun y => ?_, fun y => ⟨fun x => ?_, fun x => ?_⟩⟩⟩
  · rw [zbT (by omega)] at H; exact H
  · rw [zbF (by omega)] at H; exact H
  · rw [zbF (by omega)] at H; exact H
  · rw [zbT (by omega)] at H; exact H
theorem l_34 {g : zH} {Q : Option Value → zH → Prop} (x3 : Int32) (k : Nat) (F : Nat → Bool) (L : List Nat) (e3 : x3.toInt = (k : Int)) (hk : k < 32768) (hF : F k = true) (hl : L.length ≤ 300) (v : Int) (hb : bsC F L v) (H : ∀ h' : zH, fsA h' g F (L ++ [k]) → Q none h') : ∀ (n c : Nat) (x4 : Int32) (h : zH), x4.toInt = (c : Int) → c ≤ 15 → (∀ q : Nat, q ≠ 55 → q ≠ 56 → h.1 q = g.1 q) → (h.1 55 1).toInt = ((L.countP F : Nat) : Int) + 1 → (h.1 55 2).toInt = v → (∀ j : Nat, j < 15 → (h.1 56 j).toInt = if j < c then (((L ++ [k]).countP (fun k => F k && k.testBit j) : Nat) : Int) else ((L.countP (fun k => F k && k.testBit j) : Nat) : Int)) → zQ n 34 23 [some (.ref 55), some (.ref 15), some (.ref 57), some (.int x3), some (.int x4)] [] h Q
  | 0, _, _, _, _, _, _, _, _, _ => zQ_zero
  | n + 1, c, x4, h, e4, hc, f1, f2, f3, f4 => by
    have fin : ∀ h' : zH, (∀ q : Nat, q ≠ 55 → h'.1 q = h.1 q) → h'.1 55 1 = h.1 55 1 → c = 15 → bsC F (L ++ [k]) (h'.1 55 2).toInt → Q none h' := fun h' g1 g2 c15 g3 => by
      refine H h' ⟨fun q q1 q2 => (g1 q q1).trans (f1 q q1 q2), ?_, fun j hj => ?_, g3⟩
      · rw [g2, f2, cPa, if_pos hF]
        omega
      · rw [g1 56 (by decide), f4 j hj, if_pos (by omega)]
    refine s_34_23 x3 x4 ⟨fun d => ⟨fun z => ?_, fun z => ?_⟩, fun d _ _ _ _ => ?_⟩
    · refine fin _ (fun q q1 => zs_q q1) (wk_ne (Or.inr (by decide))) (by omega) ?_
      rw [wk_at, e3]
      exact bsC_y hk hF hb (Or.inl (by omega))
    · rcases bsC_r hb with y | ⟨b, b1, b2⟩
      · omega
      · refine q_35 x3 _ k b e3 hk (by omega) b2 ?_
        refine zri_int ⟨fun y => ?_, fun y => ?_⟩
        · refine fin h (fun _ _ => rfl) rfl (by omega) ?_
          rw [f3]
          exact bsC_k hb ⟨b, b1, by have := zb0.mp y; omega⟩
        · refine fin _ (fun q q1 => zs_q q1) (wk_ne (Or.inr (by decide))) (by omega) ?_
          rw [wk_at, e3]
          exact bsC_y hk hF hb (Or.inr ⟨b, b1, zb1.mp y⟩)
    · have e4' := ai (x := x4) (k := 1) (by omega) (by omega) (by omega) (by omega)
      have lc := cPl (p := fun k => F k && k.testBit c) (L := L)
      have f4c := f4 c (by omega)
      rw [if_neg (by omega)] at f4c
      have ec : ((h.1 56 c) + ((x3 >>> (x4 &&& 31)) &&& (Int32.ofInt 1))).toInt = (((L ++ [k]).countP (fun k => F k && k.testBit c) : Nat) : Int) := by
        have eb : ((x3 >>> (x4 &&& 31)) &&& Int32.ofInt 1).toInt = if k.testBit c then 1 else 0 := by rw [bt_has e4 (by omega), x_nI e3 (by omega), bt_nI (by omega)]
        rw [cPa]
        show _ = ((L.countP (fun k => F k && k.testBit c) + (if (F k && k.testBit c) = true then 1 else 0) : Nat) : Int)
        rw [hF, Bool.true_and]
        cases hb : k.testBit c with
        | true =>
          rw [hb] at eb
          rw [wk_add f4c eb (by simp <;> omega) (by simp <;> omega)]
          simp
        | false =>
          rw [hb] at eb
          rw [wk_add f4c eb (by simp <;> omega) (by simp <;> omega)]
          simp
      rw [show x4.toInt.toNat = c by omega]
      refine l_34 x3 k F L e3 hk hF hl v hb H n (c + 1) _ _ (by omega) (by omega) (fun q q1 q2 => by rw [zs_q q2]; exact f1 q q1 q2) (by rw [zs_q (by decide)]; exact f2) (by rw [zs_q (by decide)]; exact f3) (fun j hj => ?_)
      by_cases z : j = c
      · subst z
        rw [wk_at, if_pos (by omega)]
        exact ec
      · rw [wk_ne (Or.inr z), f4 j hj]
        by_cases y : j < c
        · rw [if_pos y, if_pos (by omega)]
        · rw [if_neg y, if_neg (by omega)]
def tdA (g : zH) (G : Nat → Int) (K : Nat) (tv : Nat → Int) : Prop := CT1 g 15 G ∧ G 57 = (K : Int) ∧ ∀ t : Nat, t < K → (g.1 57 t).toInt = tv t
theorem tdA_t {g h : zH} {G : Nat → Int} {K : Nat} {tv : Nat → Int} (t : tdA g G K tv) (f : ∀ q : Nat, q ≠ 55 → q ≠ 56 → h.1 q = g.1 q) : tdA h G K tv := ⟨C1_fr (fun q a b => f q (by omega) (by omega)) t.1, t.2.1, fun k hk => by rw [f 57 (by decide) (by decide)]; exact t.2.2 k hk⟩
theorem q_34 {h g : zH} {Q : Option Value → zH → Prop} {G : Nat → Int} {K : Nat} {tv : Nat → Int} (a3 : Int32) (k : Nat) (L : List Nat) (e3 : a3 = nI k) (hk : k < 32768) (hl : L.length ≤ 300) (t : tdA g G K tv) (f : fsA h g (fun k => mkB G K tv (fun i => k.testBit i)) L) (H : ∀ h' : zH, fsA h' g (fun k => mkB G K tv (fun i => k.testBit i)) (L ++ [k]) → Q none h') : zqm 34 [.ref 55, .ref 15, .ref 57, .int a3] h Q := by
  obtain ⟨f1, f2, f3, f4⟩ := f
  obtain ⟨C, hK, et⟩ := tdA_t t f1
  have lc := cPl (p := fun k => mkB G K tv (fun i => k.testBit i)) (L := L)
  have e3' : a3.toInt = (k : Int) := by rw [e3]; exact nI_I (by omega)
  refine s_34 a3 (fun n => ?_)
  refine q_19 a3 K tv (fun i => k.testBit i) C hK (by rw [e3, nb_mk hk]) et ?_
  refine zri_int ⟨fun z => ?_, fun z => ?_⟩
  · refine l_34 a3 k _ L e3' hk (zb1.mp z) hl _ f4 H n 0 _ _ kc_0 (by omega) (fun q q1 q2 => by rw [zs_q q1]; exact f1 q q1 q2) ?_ ?_ (fun j hj => ?_)
    · rw [wk_at, ai (by omega) (by omega) (by omega) (by omega), f2]
    · rw [wk_ne (Or.inr (by decide))]
    · rw [zs_q (by decide), if_neg (by omega)]
      exact f3 j hj
  · have z : mkB G K tv (fun i => k.testBit i) = false := by simpa using zb2.mp z
    refine H h ⟨f1, ?_, fun c hc => ?_, bsC_n (F := fun k => mkB G K tv (fun i => k.testBit i)) z f4⟩
    · rw [cPa, if_neg (by show ¬ mkB G K tv (fun i => k.testBit i) = true; rw [z]; decide), f2, Nat.add_zero]
    · rw [cPa, if_neg (by show ¬ (mkB G K tv (fun i => k.testBit i) && k.testBit c) = true; rw [z, Bool.false_and]; decide), f3 c hc, Nat.add_zero]
theorem two_c {x y : Int32} {a b : Nat} (ex : x.toInt = (a : Int)) (ha : a < 15) (ey : y.toInt = (b : Int)) (hb : b < 15) : (Int32.ofInt 1 <<< (x &&& 31)) ||| (Int32.ofInt 1 <<< (y &&& 31)) = nI (prb a b) := by
  rw [one_c ex ha, one_c ey hb, mkm_or, nb_mk (prb_lt ha hb)]
  exact mkm_congr (by omega) (fun i hi => prb_t.symm)
theorem rowL_l {a : Nat} : ∀ {m : Nat}, (rowL a m).length = m
  | 0 => rfl
  | m + 1 => by
    show (rowL a m ++ [prb a (a + m)]).length = m + 1
    rw [ll1, rowL_l]
theorem allL_l : ∀ {a : Nat}, (allL a).length ≤ 1 + 15 * a
  | 0 => Nat.le_refl 1
  | a + 1 => by
    have := allL_l (a := a)
    show (allL a ++ rowL a (15 - a)).length ≤ _
    rw [List.length_append, rowL_l]
    omega
theorem l_33_50 {g : zH} {Q : Option Value → zH → Prop} {G : Nat → Int} {K : Nat} {tv : Nat → Int} (t : tdA g G K tv) (x3 : Int32) (a : Nat) (e3 : x3.toInt = (a : Int)) (ha : a < 15) (H : ∀ (n : Nat) (o4 : Option Value) (h' : zH), fsA h' g (fun k => mkB G K tv (fun i => k.testBit i)) (allL (a + 1)) → zQ n 33 41 [some (.ref 55), some (.ref 15), some (.ref 57), some (.int (x3 + Int32.ofInt 1)), o4] [] h' Q) : ∀ (n m : Nat) (x4 : Int32) (h : zH), x4.toInt = ((a + m : Nat) : Int) → a + m ≤ 15 → fsA h g (fun k => mkB G K tv (fun i => k.testBit i)) (allL a ++ rowL a m) → zQ n 33 50 [some (.ref 55), some (.ref 15), some (.ref 57), some (.int x3), some (.int x4)] [] h Q
  | 0, _, _, _, _, _, _ => zQ_zero
  | n + 1, m, x4, h, e4, hm, f => by
    refine s_33_50 x3 x4 ⟨fun d => ?_, fun d => ?_⟩
    · have : m = 15 - a := by omega
      subst this
      exact H n _ h f
    · have e4' := ai (x := x4) (k := 1) (by omega) (by omega) (by omega) (by omega)
      have l1 := allL_l (a := a)
      refine q_34 _ (prb a (a + m)) _ (two_c e3 ha e4 (by omega)) (prb_lt ha (by omega)) (by rw [List.length_append, rowL_l]; omega) t f (fun h' f' => ?_)
      refine l_33_50 t x3 a e3 ha H n (m + 1) _ h' (by omega) (by omega) ?_
      rw [List.append_assoc] at f'
      exact f'
theorem l_33_41 {g : zH} {Q : Option Value → zH → Prop} {G : Nat → Int} {K : Nat} {tv : Nat → Int} (t : tdA g G K tv) (H : ∀ h' : zH, fsA h' g (fun k => mkB G K tv (fun i => k.testBit i)) (allL 15) → Q none h') : ∀ (m n a : Nat) (x3 : Int32) (o4 : Option Value) (h : zH), x3.toInt = (a : Int) → a + m = 15 → fsA h g (fun k => mkB G K tv (fun i => k.testBit i)) (allL a) → zQ n 33 41 [some (.ref 55), some (.ref 15), some (.ref 57), some (.int x3), o4] [] h Q := by
  intro m
  induction m with
  | zero =>
    intro n a x3 o4 h e3 hm f
    cases n with
    | zero => exact zQ_zero
    | succ n =>
      have : a = 15 := by omega
      subst this
      exact s_33_41 x3 o4 ⟨fun _ => H h f, fun d => absurd (by omega) d⟩
  | succ m ih =>
    intro n a x3 o4 h e3 hm f
    cases n with
    | zero => exact zQ_zero
    | succ n =>
      refine s_33_41 x3 o4 ⟨fun d => by exfalso; omega, fun _ => ?_⟩
      refine l_33_50 t x3 a e3 (by omega) (fun n' o4' h' f' => ?_) n 0 _ h e3 (by omega) (by show fsA h g _ (allL a ++ []); rw [List.append_nil]; exact f)
      have e3' := ai (x := x3) (k := 1) (by omega) (by omega) (by omega) (by omega)
      exact ih n' (a + 1) _ _ h' (by omega) (by omega) f'
theorem l_33_13 {g : zH} {Q : Option Value → zH → Prop} {G : Nat → Int} {K : Nat} {tv : Nat → Int} (t : tdA g G K tv) (H : ∀ h' : zH, fsA h' g (fun k => mkB G K tv (fun i => k.testBit i)) (allL 15) → Q none h') : ∀ (n c : Nat) (x3 : Int32) (h : zH), x3.toInt = (c : Int) → c ≤ 15 → (∀ q : Nat, q ≠ 55 → q ≠ 56 → h.1 q = g.1 q) → (h.1 55 1).toInt = 0 → (h.1 55 2).toInt = -1000000 → (∀ j : Nat, j < c → (h.1 56 j).toInt = 0) → zQ n 33 13 [some (.ref 55), some (.ref 15), some (.ref 57), some (.int x3), none] [] h Q
  | 0, _, _, _, _, _, _, _, _, _ => zQ_zero
  | n + 1, c, x3, h, e3, hc, f1, f2, f3, f4 => by
    refine s_33_13 x3 ⟨fun d => ?_, fun d _ _ => ?_⟩
    · refine q_34 (g := g) _ 0 [] (show Int32.ofInt 0 = nI 0 by decide) (by decide) (by decide) t ⟨f1, by rw [f2]; rfl, fun j hj => by rw [f4 j (by omega)]; rfl, Or.inl ⟨f3, fun k hk => by cases hk⟩⟩ (fun h' f' => ?_)
      exact l_33_41 t H 15 n 0 _ _ h' kc_0 (by omega) f'
    · have e3' := ai (x := x3) (k := 1) (by omega) (by omega) (by omega) (by omega)
      rw [show x3.toInt.toNat = c by omega]
      refine l_33_13 t H n (c + 1) _ _ (by omega) (by omega) (fun q q1 q2 => by rw [zs_q q2]; exact f1 q q1 q2) (by rw [zs_q (by decide)]; exact f2) (by rw [zs_q (by decide)]; exact f3) (fun j hj => ?_)
      by_cases z : j = c
      · subst z
        rw [wk_at]
        exact kc_0
      · rw [wk_ne (Or.inr z)]
        exact f4 j (by omega)
theorem q_33 {g : zH} {Q : Option Value → zH → Prop} {G : Nat → Int} {K : Nat} {tv : Nat → Int} (t : tdA g G K tv) (H : ∀ h' : zH, fsA h' g (fun k => mkB G K tv (fun i => k.testBit i)) (allL 15) → Q none h') : zqm 33 [.ref 55, .ref 15, .ref 57] g Q := by
  refine s_33 (fun n => l_33_13 t H n 0 _ _ kc_0 (by omega) (fun q q1 q2 => by rw [zs_q q1, zs_q q1]) ?_ ?_ (fun j hj => by omega))
  · rw [wk_ne (Or.inr (by decide)), wk_at]
    exact kc_0
  · rw [wk_at]
    decide

/-! all sets that fit: the reference -/
def fsB (h g : zH) (F : Nat → Bool) (L : List Nat) : Prop := (∀ q : Nat, q ≠ 58 → q ≠ 70 → h.1 q = g.1 q) ∧ (∀ j : Nat, j ≠ 19 → j ≠ 20 → h.1 58 j = g.1 58 j) ∧ (h.1 58 19).toInt = ((L.countP F : Nat) : Int) ∧ (∀ c : Nat, c < 15 → (h.1 70 c).toInt = ((L.countP (fun k => F k && k.testBit c) : Nat) : Int)) ∧ bsC F L (h.1 58 20).toInt
def tdB (g : zH) (K A : Nat) (tv : Nat → Int) : Prop := wfG (nowG g) ∧ g.1 58 13 = mkm (smB (gyD (nowG g))) 15 ∧ (∀ s : Nat, (s : Int) < nowG g 57 → g.1 66 s = mkm (flB (gyD (nowG g)) (gyE (nowG g) s)) 15) ∧ nowG g 57 = (K : Int) ∧ (g.1 58 18).toInt = (A : Int) ∧ A + K ≤ 320 ∧ ∀ t : Nat, t < K → (g.1 61 (A + t)).toInt = tv t
theorem fl_len : ∀ {m k : Nat}, k ≤ m → (fltL k).length ≤ (fltL m).length
  | 0, k, h => by
    have : k = 0 := by omega
    subst this
    exact Nat.le_refl _
  | m + 1, k, h => by
    by_cases z : k = m + 1
    · subst z
      exact Nat.le_refl _
    · have := fl_len (m := m) (k := k) (by omega)
      show _ ≤ (if cb2 m < 3 then fltL m ++ [m] else fltL m).length
      split
      · rw [ll1]
        omega
      · exact this
theorem fl_300 {k : Nat} (hk : k ≤ 32768) : (fltL k).length ≤ 300 := by
  have a := fl_len hk
  have b := fl_perm.length_eq
  have c := allL_l (a := 15)
  omega
theorem l_188_103 {g : zH} {Q : Option Value → zH → Prop} (x1 : Int32) (k : Nat) (F : Nat → Bool) (L : List Nat) (e1 : x1.toInt = (k : Int)) (hk : k < 32768) (hF : F k = true) (hl : L.length ≤ 300) (H : ∀ (n : Nat) (o2 : Option Value) (h' : zH), fsB h' g F (L ++ [k]) → zQ n 188 34 [some (.ref 58), some (.int (x1 + Int32.ofInt 1)), o2] [] h' Q) : ∀ (n c : Nat) (x2 : Int32) (h : zH), x2.toInt = (c : Int) → c ≤ 15 → (∀ q : Nat, q ≠ 58 → q ≠ 70 → h.1 q = g.1 q) → (∀ j : Nat, j ≠ 19 → j ≠ 20 → h.1 58 j = g.1 58 j) → (h.1 58 19).toInt = (((L ++ [k]).countP F : Nat) : Int) → bsC F (L ++ [k]) (h.1 58 20).toInt → (∀ j : Nat, j < 15 → (h.1 70 j).toInt = if j < c then (((L ++ [k]).countP (fun k => F k && k.testBit j) : Nat) : Int) else ((L.countP (fun k => F k && k.testBit j) : Nat) : Int)) → zQ n 188 103 [some (.ref 58), some (.int x1), some (.int x2)] [] h Q
  | 0, _, _, _, _, _, _, _, _, _, _ => zQ_zero
  | n + 1, c, x2, h, e2, hc, f1, f0, f2, f3, f4 => by
    refine s_188_103 x1 x2 ⟨fun d => ?_, fun d _ _ => ?_⟩
    · refine H n _ h ⟨f1, f0, f2, fun j hj => ?_, f3⟩
      rw [f4 j hj, if_pos (by omega)]
    · have e2' := ai (x := x2) (k := 1) (by omega) (by omega) (by omega) (by omega)
      have lc := cPl (p := fun k => F k && k.testBit c) (L := L)
      have f4c := f4 c (by omega)
      rw [if_neg (by omega)] at f4c
      have c1 : (L ++ [k]).countP (fun k => F k && k.testBit c) = L.countP (fun k => F k && k.testBit c) + (if k.testBit c = true then 1 else 0) := by
        rw [cPa]
        show _ + (if (F k && k.testBit c) = true then 1 else 0) = _
        rw [hF, Bool.true_and]
      have go : ∀ w : Int32, w.toInt = (((L ++ [k]).countP (fun k => F k && k.testBit c) : Nat) : Int) → zQ n 188 103 [some (.ref 58), some (.int x1), some (.int (x2 + Int32.ofInt 1))] [] (zSet h 70 c w) Q := fun w ew => by
        refine l_188_103 x1 k F L e1 hk hF hl H n (c + 1) _ _ (by omega) (by omega) (fun q q1 q2 => by rw [zs_q q2]; exact f1 q q1 q2) (fun j j1 j2 => by rw [zs_q (by decide)]; exact f0 j j1 j2) (by rw [zs_q (by decide)]; exact f2) (by rw [zs_q (by decide)]; exact f3) (fun j hj => ?_)
        by_cases z : j = c
        · subst z
          rw [wk_at, if_pos (by omega)]
          exact ew
        · rw [wk_ne (Or.inr z), f4 j hj]
          by_cases y : j < c
          · rw [if_pos y, if_pos (by omega)]
          · rw [if_neg y, if_neg (by omega)]
      refine q_122 x1 x2 c e2 (by omega) ?_
      have tb : bt x1 c = k.testBit c := by rw [x_nI e1 (by omega), bt_nI (by omega)]
      rw [show x2.toInt.toNat = c by omega]
      refine zri_int ⟨fun z _ _ => go _ ?_, fun z _ _ => go _ ?_⟩
      · have z := zb0.mp z
        rw [tb] at z
        rw [ai (by omega) (by omega) (by omega) (by omega), f4c, c1, if_neg z]
        omega
      · have z := zb1.mp z
        rw [tb] at z
        rw [ai (by omega) (by omega) (by omega) (by omega), f4c, c1, if_pos z]
        omega
theorem l_188_34 {g : zH} {Q : Option Value → zH → Prop} {K A : Nat} {tv : Nat → Int} (t : tdB g K A tv) (H : ∀ h' : zH, fsB h' g (fun k => mkB (nowG g) K tv (fun i => k.testBit i)) (fltL 32768) → Q none h') : ∀ (m n k : Nat) (x1 : Int32) (o2 : Option Value) (h : zH), x1.toInt = (k : Int) → k + m = 32768 → fsB h g (fun k => mkB (nowG g) K tv (fun i => k.testBit i)) (fltL k) → zQ n 188 34 [some (.ref 58), some (.int x1), o2] [] h Q := by
  intro m
  induction m with
  | zero =>
    intro n k x1 o2 h e1 hm f
    cases n with
    | zero => exact zQ_zero
    | succ n =>
      have : k = 32768 := by omega
      subst this
      exact s_188_34 x1 o2 ⟨fun _ => H h f, fun d => absurd (by omega) d⟩
  | succ m ih =>
    intro n k x1 o2 h e1 hm f
    cases n with
    | zero => exact zQ_zero
    | succ n =>
      have e1' : (x1 + Int32.ofInt 1).toInt = ((k + 1 : Nat) : Int) := by
        rw [ai (by omega) (by omega) (by omega) (by omega)]
        omega
      have hl := fl_300 (k := k) (by omega)
      refine s_188_34 x1 o2 ⟨fun d => by exfalso; omega, fun _ => ?_⟩
      refine q_123k x1 k e1 (by omega) (fun v2 ev2 => ?_)
      refine zri_int ⟨fun z => ?_, fun z => ?_⟩
      · refine ih n (k + 1) _ _ h e1' (by omega) ?_
        rw [show fltL (k + 1) = fltL k from if_neg (by omega)]
        exact f
      · have eL : fltL (k + 1) = fltL k ++ [k] := if_pos (by omega)
        obtain ⟨f1, f0, f2, f3, f4⟩ := id f
        obtain ⟨t1, t2, t3, t4, t5, t6, t7⟩ := t
        have eN : nowG h = nowG g := funext fun j => by unfold nowG; rw [f1 64 (by decide) (by decide)]
        have lc := cPl (p := fun k => mkB (nowG g) K tv (fun i => k.testBit i)) (L := fltL k)
        refine q_185 x1 K A tv (fun i => k.testBit i) (by rw [eN]; exact t1) (by rw [eN, f0 13 (by decide) (by decide)]; exact t2) (by rw [eN, f1 66 (by decide) (by decide)]; exact t3) (by rw [eN]; exact t4) (by rw [x_nI e1 (by omega), nb_mk (by omega)]) (by rw [f0 18 (by decide) (by decide)]; exact t5) t6 (fun j hj => by rw [f1 61 (by decide) (by decide)]; exact t7 j hj) ?_
        rw [eN]
        refine zri_int ⟨fun y => ?_, fun y => ?_⟩
        · have y : mkB (nowG g) K tv (fun i => k.testBit i) = false := by simpa using zb0.mp y
          refine ih n (k + 1) _ _ h e1' (by omega) ?_
          rw [eL]
          refine ⟨f1, f0, ?_, fun c hc => ?_, bsC_n (F := fun k => mkB (nowG g) K tv (fun i => k.testBit i)) y f4⟩
          · rw [cPa, if_neg (by show ¬ mkB (nowG g) K tv (fun i => k.testBit i) = true; rw [y]; decide), f2, Nat.add_zero]
          · rw [cPa, if_neg (by show ¬ (mkB (nowG g) K tv (fun i => k.testBit i) && k.testBit c) = true; rw [y, Bool.false_and]; decide), f3 c hc, Nat.add_zero]
        · have y := zb1.mp y
          have e19 : ((h.1 58 19) + (Int32.ofInt 1)).toInt = (((fltL k ++ [k]).countP (fun k => mkB (nowG g) K tv (fun i => k.testBit i)) : Nat) : Int) := by
            rw [ai (by omega) (by omega) (by omega) (by omega), f2, cPa, if_pos y]
            omega
          have go : ∀ (h8 : zH) (n' : Nat), (∀ q : Nat, q ≠ 58 → h8.1 q = h.1 q) → (∀ j : Nat, j ≠ 19 → j ≠ 20 → h8.1 58 j = h.1 58 j) → h8.1 58 19 = (h.1 58 19) + (Int32.ofInt 1) → bsC (fun k => mkB (nowG g) K tv (fun i => k.testBit i)) (fltL k ++ [k]) (h8.1 58 20).toInt → zQ n' 188 103 [some (.ref 58), some (.int x1), some (.int (Int32.ofInt 0))] [] h8 Q := fun h8 n' g1 g2 g3 g4 => by
            refine l_188_103 x1 k (fun k => mkB (nowG g) K tv (fun i => k.testBit i)) (fltL k) e1 (by omega) y hl (fun n2 o2' h' f' => ?_) n' 0 _ h8 kc_0 (by omega) (fun q q1 q2 => (g1 q q1).trans (f1 q q1 q2)) (fun j j1 j2 => (g2 j j1 j2).trans (f0 j j1 j2)) (by rw [g3]; exact e19) g4 (fun j hj => by rw [g1 70 (by decide), if_neg (by omega)]; exact f3 j hj)
            exact ih n2 (k + 1) _ _ h' e1' (by omega) (by rw [eL]; exact f')
          refine ⟨fun x => ?_, fun x => ?_⟩
          · refine go _ n (fun q q1 => by rw [zs_q q1, zs_q q1]) (fun j j1 j2 => by rw [wk_ne (Or.inr j2), wk_ne (Or.inr j1)]) (by rw [wk_ne (Or.inr (by decide)), wk_at]) ?_
            rw [wk_at, e1]
            exact bsC_y (by omega) y f4 (Or.inl x)
          · rcases bsC_r f4 with w | ⟨b, b1, b2⟩
            · exact absurd w x
            · refine q_123k x1 k e1 (by omega) (fun v7 ev7 => ?_)
              refine zri_int ?_
              refine q_123k _ b (by rw [wk_ne (Or.inr (by decide))]; exact b1) b2 (fun v8 ev8 => ?_)
              have bk : b < k := by
                rcases f4 with ⟨u1, -⟩ | ⟨j, j1, j2, j3, j4, j5⟩
                · exact absurd u1 x
                · have := (fltL_m.mp j1).1
                  omega
              refine zri_int ⟨fun u => ?_, fun u => ?_⟩
              · refine go _ n (fun q q1 => by rw [zs_q q1, zs_q q1]) (fun j j1 j2 => by rw [wk_ne (Or.inr j2), wk_ne (Or.inr j1)]) (by rw [wk_ne (Or.inr (by decide)), wk_at]) ?_
                rw [wk_at, wk_ne (Or.inr (by decide))]
                refine bsC_k f4 ⟨b, b1, ?_⟩
                unfold ky
                omega
              · refine go _ n (fun q q1 => by rw [zs_q q1, zs_q q1]) (fun j j1 j2 => by rw [wk_ne (Or.inr j2), wk_ne (Or.inr j1)]) (by rw [wk_ne (Or.inr (by decide)), wk_at]) ?_
                rw [wk_at, e1]
                refine bsC_y (by omega) y f4 (Or.inr ⟨b, b1, ?_⟩)
                unfold ky
                omega
theorem l_188_13 {g : zH} {Q : Option Value → zH → Prop} {K A : Nat} {tv : Nat → Int} (t : tdB g K A tv) (H : ∀ h' : zH, fsB h' g (fun k => mkB (nowG g) K tv (fun i => k.testBit i)) (fltL 32768) → Q none h') : ∀ (n c : Nat) (x1 : Int32) (h : zH), x1.toInt = (c : Int) → c ≤ 15 → (∀ q : Nat, q ≠ 58 → q ≠ 70 → h.1 q = g.1 q) → (∀ j : Nat, j ≠ 19 → j ≠ 20 → h.1 58 j = g.1 58 j) → (h.1 58 19).toInt = 0 → (h.1 58 20).toInt = -1000000 → (∀ j : Nat, j < c → (h.1 70 j).toInt = 0) → zQ n 188 13 [some (.ref 58), some (.int x1), none] [] h Q
  | 0, _, _, _, _, _, _, _, _, _, _ => zQ_zero
  | n + 1, c, x1, h, e1, hc, f1, f0, f2, f3, f4 => by
    refine s_188_13 x1 ⟨fun d => ?_, fun d _ _ => ?_⟩
    · exact l_188_34 t H 32768 n 0 _ _ h kc_0 (by omega) ⟨f1, f0, by rw [f2]; rfl, fun j hj => by rw [f4 j (by omega)]; rfl, Or.inl ⟨f3, fun k hk => by cases hk⟩⟩
    · have e1' := ai (x := x1) (k := 1) (by omega) (by omega) (by omega) (by omega)
      rw [show x1.toInt.toNat = c by omega]
      refine l_188_13 t H n (c + 1) _ _ (by omega) (by omega) (fun q q1 q2 => by rw [zs_q q2]; exact f1 q q1 q2) (fun j j1 j2 => by rw [zs_q (by decide)]; exact f0 j j1 j2) (by rw [zs_q (by decide)]; exact f2) (by rw [zs_q (by decide)]; exact f3) (fun j hj => ?_)
      by_cases z : j = c
      · subst z
        rw [wk_at]
        exact kc_0
      · rw [wk_ne (Or.inr z)]
        exact f4 j (by omega)
theorem q_188 {g : zH} {Q : Option Value → zH → Prop} {K A : Nat} {tv : Nat → Int} (t : tdB g K A tv) (H : ∀ h' : zH, fsB h' g (fun k => mkB (nowG g) K tv (fun i => k.testBit i)) (fltL 32768) → Q none h') : zqm 188 [.ref 58] g Q := by
  refine s_188 (fun n => l_188_13 t H n 0 _ _ kc_0 (by omega) (fun q q1 q2 => by rw [zs_q q1, zs_q q1]) (fun j j1 j2 => by rw [wk_ne (Or.inr j2), wk_ne (Or.inr j1)]) ?_ ?_ (fun j hj => by omega))
  · rw [wk_ne (Or.inr (by decide)), wk_at]
    exact kc_0
  · rw [wk_at]
    decide

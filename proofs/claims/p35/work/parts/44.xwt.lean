/-! the fewest strokes: the class -/
theorem dv32 {x y : Int32} {a b : Nat} (ex : x.toInt = (a : Int)) (ey : y.toInt = (b : Int)) : (x / y).toInt = ((a / b : Nat) : Int) := by
  have ha := x.toInt_lt
  rw [Jvm.Kit.i32_div (by omega), ex, ey]
  exact div_n
theorem kc4n : (Int32.ofInt 4).toInt = ((4 : Nat) : Int) := by decide
def tS (G T : Nat → Int) : Prop := (∀ k : Nat, k < 62 → k < 15 ∨ 30 ≤ k → T k = G k) ∧ ∀ d : Nat, d < 15 → 0 ≤ T (15 + d) ∧ T (15 + d) ≤ 3
def stk (T : Nat → Int) (n : Nat) : Nat → Int := drw T (n / 4) ((n % 4 : Nat) : Int)
def chg (T : Nat → Int) (n : Nat) : Bool := !decide (T (15 + n / 4) = ((n % 4 : Nat) : Int))
def dn (G : Nat → Int) (tr : Bool) (T : Nat → Int) : Bool := decide ((mkm (fun c => (tr || gyI G c) && wr T c) 15).toInt = 0)
theorem dn_iff {G : Nat → Int} {tr : Bool} {T : Nat → Int} : dn G tr T = true ↔ ∀ c : Nat, c < 15 → ((tr || gyI G c) && wr T c) = false := by
  unfold dn
  rw [decide_eq_true_eq, mkm_zero]
theorem drw_o {T : Nat → Int} {c k : Nat} {s : Int} (h1 : k ≠ 15 + c) (h2 : k ≠ 15 + (c + (T 58).toNat) % 15) : drw T c s k = T k := by
  unfold drw
  rw [if_neg h1, if_neg h2, ite_self]
theorem tS_s {G T : Nat → Int} (w : wfG G) (t : tS G T) {n : Nat} (hn : n < 60) : tS G (stk T n) := by
  obtain ⟨t1, t2⟩ := t
  have h58 := t1 58 (by omega) (by omega)
  have h59 := t1 59 (by omega) (by omega)
  have w58 := w.2.2.1
  have w59 := w.2.2.2.1
  refine ⟨fun k hk hr => ?_, fun d hd => ?_⟩
  · unfold stk
    rw [drw_o (by omega) (by omega)]
    exact t1 k hk hr
  · unfold stk drw
    have a := t2 d hd
    have b := t2 ((n / 4 + (T 58).toNat) % 15) (by omega)
    repeat' split
    all_goals omega
def fF (p : Nat → Bool) : Nat → Nat → Int
  | 0, _ => -1000000
  | m + 1, n => if p n = true then (n : Int) else fF p m (n + 1)
theorem fF_y {p : Nat → Bool} {m n : Nat} (h : p n = true) : fF p (m + 1) n = (n : Int) := if_pos h
theorem fF_n {p : Nat → Bool} {m n : Nat} (h : ¬ p n = true) : fF p (m + 1) n = fF p m (n + 1) := if_neg h
theorem fF_0 {p : Nat → Bool} : ∀ {m n : Nat}, (∀ j : Nat, n ≤ j → j < n + m → p j = false) → fF p m n = -1000000
  | 0, _, _ => rfl
  | m + 1, n, h => by
    rw [fF_n (by rw [h n (by omega) (by omega)]; decide)]
    exact fF_0 (fun j h1 h2 => h j (by omega) (by omega))
theorem fF_r {p : Nat → Bool} : ∀ {m n : Nat}, fF p m n = -1000000 ∨ ∃ j : Nat, fF p m n = (j : Int) ∧ n ≤ j ∧ j < n + m ∧ p j = true
  | 0, _ => Or.inl rfl
  | m + 1, n => by
    by_cases z : p n = true
    · exact Or.inr ⟨n, fF_y z, by omega, by omega, z⟩
    · rw [fF_n z]
      rcases fF_r (p := p) (m := m) (n := n + 1) with e | ⟨j, j1, j2, j3, j4⟩
      · exact Or.inl e
      · exact Or.inr ⟨j, j1, by omega, by omega, j4⟩
def one (G : Nat → Int) (tr : Bool) (T : Nat → Int) : Int := fF (fun n => chg T n && dn G tr (stk T n)) 60 0
theorem cnt_ab {p : Nat → Bool} {a b : Nat} : ∀ {n : Nat}, (∀ i : Nat, i < n → p i = true → i = a ∨ i = b) → cnt p n ≤ (if a < n then 1 else 0) + (if b < n then 1 else 0)
  | 0, _ => Nat.zero_le _
  | n + 1, h => by
    have ih := cnt_ab (n := n) (fun i hi => h i (by omega))
    rw [cnt_s]
    have hn := h n (by omega)
    cases hp : p n with
    | false =>
      rw [if_neg (by decide)]
      split at ih <;> split at ih <;> split <;> split <;> omega
    | true =>
      rw [if_pos rfl]
      have hn := hn hp
      split at ih <;> split at ih <;> split <;> split <;> omega
/-- a stroke can't mend more than the two cells that it touches -/
theorem prune {G T : Nat → Int} {tr : Bool} (t : tS G T) (h : 2 < cnt (fun c => (tr || gyI G c) && wr T c) 15) : one G tr T = -1000000 := by
  refine fF_0 (fun n _ hn => ?_)
  apply Bool.eq_false_iff.mpr
  intro z
  rw [Bool.and_eq_true] at z
  have z := dn_iff.mp z.2
  have l := cnt_ab (p := fun c => (tr || gyI G c) && wr T c) (a := n / 4) (b := (n / 4 + (T 58).toNat) % 15) (n := 15) (fun i hi hp => by
    apply Decidable.byContradiction
    intro y
    have z := z i hi
    have e1 : stk T n i = T i := drw_o (by omega) (by omega)
    have e2 : stk T n (15 + i) = T (15 + i) := drw_o (by omega) (by omega)
    have e3 : wr (stk T n) i = wr T i := by unfold wr; rw [e1, e2]
    rw [e3] at z
    rw [z] at hp
    cases hp)
  split at l <;> split at l <;> omega
theorem q_46 {h : zH} {Q : Option Value → zH → Prop} {T : Nat → Int} (a0 a1 : Int32) (n : Nat) (hp : pl a0 (fun d => T (15 + d))) (e1 : a1.toInt = (n : Int)) (hn : n < 60) (r : ∀ d : Nat, d < 15 → 0 ≤ T (15 + d) ∧ T (15 + d) ≤ 3) (H : Q (some (.int (zbo (chg T n = true)))) h) : zqm 46 [.int a0, .int a1] h Q := by
  have ed := dv32 e1 kc4n
  have em := rem32 e1 kc4n
  have rr := r (n / 4) (by omega)
  refine s_46 a0 a1 ?_
  refine q_48 hp ed (by omega) rr.1 rr.2 (fun v ev => ?_)
  have ev : v.toInt = T (15 + n / 4) := ev
  rw [em]
  refine zri_int ?_
  rw [ev]
  refine ⟨fun z => ?_, fun z => ?_⟩
  · rw [zbF (p := chg T n = true) (by unfold chg; rw [decide_eq_true z]; decide)] at H
    exact H
  · rw [zbT (p := chg T n = true) (by unfold chg; rw [decide_eq_false z]; rfl)] at H
    exact H
theorem q_47 {h : zH} {Q : Option Value → zH → Prop} {G T : Nat → Int} (a1 a2 : Int32) (tr : Bool) (C : CT1 h 15 G) (t : tS G T) (hp : pl a1 (fun d => T (15 + d))) (e2 : a2 = mkm (fun c => tr || gyI G c) 15) (H : Q (some (.int (zbo (dn G tr T = true)))) h) : zqm 47 [.ref 15, .int a1, .int a2] h Q := by
  have c6 : pl (h.1 15 3) G := C.2.2.2.2.2.1
  refine s_47 a1 a2 ?_
  refine q_51 _ _ G (fun c => T (15 + c)) c6 hp (fun c hc => (C.2.1.1 c hc).1) t.2 ?_
  refine zri_int ?_
  rw [e2, mkm_and]
  have e : mkm (fun c => (tr || gyI G c) && !decide (G c = T (15 + c))) 15 = mkm (fun c => (tr || gyI G c) && wr T c) 15 := mkm_congr (by omega) (fun c hc => by
    unfold wr
    rw [t.1 c (by omega) (by omega)])
  rw [e]
  unfold dn at H
  refine ⟨fun z => ?_, fun z => ?_⟩
  · rw [zbF (by rw [decide_eq_true_eq]; exact z)] at H
    exact H
  · rw [zbT (by rw [decide_eq_true_eq]; exact Decidable.not_not.mp z)] at H
    exact H
theorem q_27T {h : zH} {Q : Option Value → zH → Prop} {G T : Nat → Int} (a1 a2 : Int32) (n : Nat) (C : CT1 h 15 G) (t : tS G T) (hp : pl a1 (fun d => T (15 + d))) (e2 : a2.toInt = (n : Int)) (hn : n < 60) (H : ∀ v : Int32, pl v (fun d => stk T n (15 + d)) → Q (some (.int v)) h) : zqm 27 [.ref 15, .int a1, .int a2] h Q := by
  have h58 := t.1 58 (by omega) (by omega)
  have h59 := t.1 59 (by omega) (by omega)
  refine q_27 a1 a2 T (n / 4) (n % 4) hp (by rw [e2]; omega) (by omega) (by omega) (by rw [h58]; exact C.2.2.2.1) (by rw [h59]; exact C.2.2.2.2.1) (by rw [h58]; exact C.2.1.2.2.1) (by rw [h59]; exact C.2.1.2.2.2.1) t.2 H
theorem l_45 {h : zH} {Q : Option Value → zH → Prop} {G T : Nat → Int} (x1 x2 : Int32) (tr : Bool) (C : CT1 h 15 G) (t : tS G T) (hp : pl x1 (fun d => T (15 + d))) (e2 : x2 = mkm (fun c => tr || gyI G c) 15) : ∀ (f m n : Nat) (x3 : Int32), x3.toInt = (n : Int) → n + m = 60 → (∀ v : Int32, v.toInt = fF (fun n => chg T n && dn G tr (stk T n)) m n → Q (some (.int v)) h) → zQ f 45 22 [some (.ref 15), some (.int x1), some (.int x2), some (.int x3)] [] h Q
  | 0, _, _, _, _, _, _ => zQ_zero
  | f + 1, m, n, x3, e3, hm, H => by
    refine s_45_22 x1 x2 x3 ⟨fun d => ?_, fun d => ?_⟩
    · have : m = 0 := by omega
      subst this
      exact H _ (show (-1000000 : Int32).toInt = (-1000000 : Int) by decide)
    · obtain ⟨m', rfl⟩ : ∃ m', m = m' + 1 := ⟨m - 1, by omega⟩
      have e3' := ai (x := x3) (k := 1) (by omega) (by omega) (by omega) (by omega)
      have nx : ¬ (chg T n && dn G tr (stk T n)) = true → zQ f 45 22 [some (.ref 15), some (.int x1), some (.int x2), some (.int (x3 + Int32.ofInt 1))] [] h Q := fun z => l_45 x1 x2 tr C t hp e2 f m' (n + 1) _ (by omega) (by omega) (fun v ev => H v (by rw [fF_n (p := fun n => chg T n && dn G tr (stk T n)) z]; exact ev))
      refine q_46 x1 x3 n hp e3 (by omega) t.2 ?_
      refine zri_int ⟨fun z => nx (fun y => zb0.mp z (Bool.and_eq_true _ _ ▸ y).1), fun z => ?_⟩
      have z := zb1.mp z
      refine q_27T x1 x3 n C t hp e3 (by omega) (fun v4 p4 => ?_)
      refine zri_int ?_
      refine q_47 v4 x2 tr C (tS_s C.2.1 t (by omega)) p4 e2 ?_
      refine zri_int ⟨fun y => nx (fun w => zb0.mp y (Bool.and_eq_true _ _ ▸ w).2), fun y => H x3 ?_⟩
      rw [fF_y (p := fun n => chg T n && dn G tr (stk T n)) (by show (chg T n && dn G tr (stk T n)) = true; rw [z, zb1.mp y]; rfl)]
      exact e3
theorem q_45 {h : zH} {Q : Option Value → zH → Prop} {G T : Nat → Int} (a1 a2 : Int32) (tr : Bool) (C : CT1 h 15 G) (t : tS G T) (hp : pl a1 (fun d => T (15 + d))) (e2 : a2 = mkm (fun c => tr || gyI G c) 15) (H : ∀ v : Int32, v.toInt = one G tr T → Q (some (.int v)) h) : zqm 45 [.ref 15, .int a1, .int a2] h Q := by
  have c6 : pl (h.1 15 3) G := C.2.2.2.2.2.1
  refine s_45 a1 a2 (fun f => ?_)
  refine q_51 _ _ G (fun c => T (15 + c)) c6 hp (fun c hc => (C.2.1.1 c hc).1) t.2 ?_
  refine zri_int ?_
  have e : mkm (fun c => !decide (G c = T (15 + c))) 15 &&& a2 = mkm (fun c => (tr || gyI G c) && wr T c) 15 := by
    rw [e2, mkm_and]
    exact mkm_congr (by omega) (fun c hc => by
      unfold wr
      rw [t.1 c (by omega) (by omega)])
  refine q_217 _ (fun c => (tr || gyI G c) && wr T c) e (fun v2 ev2 => ?_)
  refine zri_int ⟨fun z => ?_, fun z => H _ ?_⟩
  · exact l_45 a1 a2 tr C t hp e2 f 60 0 _ kc_0 (by omega) H
  · rw [prune t (by omega)]
    decide
def two (G : Nat → Int) (tr : Bool) : Int := fF (fun n => chg G n && !decide (one G tr (stk G n) = -1000000)) 60 0
/-- what a plan holds: how many, the first, the second -/
def pln (h : zH) (a b c : Int) : Prop := (h.1 54 0).toInt = a ∧ (h.1 54 1).toInt = b ∧ (h.1 54 2).toInt = c
theorem l_44 {g : zH} {Q : Option Value → zH → Prop} {G : Nat → Int} (x2 : Int32) (tr : Bool) (C : CT1 g 15 G) (e2 : x2 = mkm (fun c => tr || gyI G c) 15) (H0 : two G tr = -1000000 → ∀ h' : zH, (∀ q, q ≠ 54 → h'.1 q = g.1 q) → pln h' (-1000000) (-1000000) (-1000000) → Q none h') (H : ∀ n : Nat, n < 60 → two G tr = (n : Int) → ∀ h' : zH, (∀ q, q ≠ 54 → h'.1 q = g.1 q) → pln h' 2 (n : Int) (one G tr (stk G n)) → Q none h') : ∀ (f m n : Nat) (x3 : Int32) (h : zH), x3.toInt = (n : Int) → n + m = 60 → fF (fun n => chg G n && !decide (one G tr (stk G n) = -1000000)) m n = two G tr → (∀ q, q ≠ 54 → h.1 q = g.1 q) → pln h (-1000000) (-1000000) (-1000000) → zQ f 44 8 [some (.ref 54), some (.ref 15), some (.int x2), some (.int x3)] [] h Q
  | 0, _, _, _, _, _, _, _, _, _ => zQ_zero
  | f + 1, m, n, x3, h, e3, hm, hf, f1, f2 => by
    have c7 : pl (g.1 15 4) (fun c => G (15 + c)) := C.2.2.2.2.2.2.1
    have C' : CT1 h 15 G := C1_fr (fun q a b => f1 q (by omega)) C
    have t0 : tS G G := ⟨fun _ _ _ => rfl, fun d hd => (C.2.1.1 d hd).2.1⟩
    have cN : (-1000000 : Int32).toInt = -1000000 := by decide
    refine s_44_8 x2 x3 ⟨fun d => ?_, fun d => ⟨fun z => absurd f2.1 z, fun _ => ?_⟩⟩
    · have : m = 0 := by omega
      subst this
      exact H0 hf.symm h f1 f2
    · obtain ⟨m', rfl⟩ : ∃ m', m = m' + 1 := ⟨m - 1, by omega⟩
      have e3' := ai (x := x3) (k := 1) (by omega) (by omega) (by omega) (by omega)
      rw [f1 15 (by decide)]
      refine q_46 _ x3 n c7 e3 (by omega) t0.2 ?_
      refine zri_int ⟨fun z => ?_, fun z => ?_⟩
      · refine l_44 x2 tr C e2 H0 H f m' (n + 1) _ h (by omega) (by omega) ?_ f1 f2
        rw [fF_n (by show ¬ (chg G n && !decide (one G tr (stk G n) = -1000000)) = true; rw [show chg G n = false by simpa using zb0.mp z, Bool.false_and]; decide)] at hf
        exact hf
      · have z := zb1.mp z
        refine q_27T _ x3 n C' t0 (by rw [f1 15 (by decide)]; exact c7) e3 (by omega) (fun v5 p5 => ?_)
        refine zri_int ?_
        refine q_45 v5 x2 tr C' (tS_s C.2.1 t0 (by omega)) p5 e2 (fun v6 e6 => ?_)
        refine zri_int ⟨fun y => ⟨fun _ => ?_, fun w => absurd y w⟩, fun y => ⟨fun w => absurd w y, fun _ => ?_⟩⟩
        · have hy : (chg G n && !decide (one G tr (stk G n) = -1000000)) = true := by
            rw [z, decide_eq_false (by rw [← e6]; exact y)]
            rfl
          rw [fF_y hy] at hf
          cases f with
          | zero => exact zQ_zero
          | succ f =>
            have p0 : pln (zSet (zSet (zSet h 54 2 v6) 54 1 x3) 54 0 (Int32.ofInt 2)) 2 (n : Int) (one G tr (stk G n)) := by
              refine ⟨?_, ?_, ?_⟩
              · rw [wk_at]; exact kc_2
              · rw [wk_ne (Or.inr (by decide)), wk_at]; exact e3
              · rw [wk_ne (Or.inr (by decide)), wk_ne (Or.inr (by decide)), wk_at]; exact e6
            have HH := H n (by omega) hf.symm _ (fun q hq => by rw [zs_q hq, zs_q hq, zs_q hq]; exact f1 q hq) p0
            refine s_44_8 x2 _ ⟨fun _ => HH, fun _ => ⟨fun _ => HH, fun w => absurd p0.1 (fun e => w (by rw [e]; decide))⟩⟩
        · have y := Decidable.not_not.mp y
          refine l_44 x2 tr C e2 H0 H f m' (n + 1) _ _ (by omega) (by omega) ?_ (fun q hq => by rw [zs_q hq, zs_q hq, zs_q hq]; exact f1 q hq) ⟨?_, ?_, ?_⟩
          · rw [fF_n (by show ¬ (chg G n && !decide (one G tr (stk G n) = -1000000)) = true; rw [decide_eq_true (by rw [← e6]; exact y)]; simp)] at hf
            exact hf
          · rw [wk_at]; exact cN
          · rw [wk_ne (Or.inr (by decide)), wk_at]; exact cN
          · rw [wk_ne (Or.inr (by decide)), wk_ne (Or.inr (by decide)), wk_at]; exact y
/-- what a plan comes to -/
def pP (G : Nat → Int) (tr : Bool) (P : Int → Int → Int → Prop) : Prop := (dn G tr G = true → P 0 (-1000000) (-1000000)) ∧ (¬ dn G tr G = true → ∀ n : Nat, n < 60 → one G tr G = (n : Int) → P 1 (n : Int) (-1000000)) ∧ (¬ dn G tr G = true → one G tr G = -1000000 → ∀ n j : Nat, n < 60 → j < 60 → two G tr = (n : Int) → one G tr (stk G n) = (j : Int) → P 2 (n : Int) (j : Int)) ∧ (¬ dn G tr G = true → one G tr G = -1000000 → two G tr = -1000000 → P (-1000000) (-1000000) (-1000000))
theorem one_r {G T : Nat → Int} {tr : Bool} : one G tr T = -1000000 ∨ ∃ j : Nat, one G tr T = (j : Int) ∧ j < 60 := by
  rcases fF_r (p := fun n => chg T n && dn G tr (stk T n)) (m := 60) (n := 0) with e | ⟨j, j1, j2, j3, j4⟩
  · exact Or.inl e
  · exact Or.inr ⟨j, j1, by omega⟩
theorem two_r {G : Nat → Int} {tr : Bool} {n : Nat} (h : two G tr = (n : Int)) : ∃ j : Nat, one G tr (stk G n) = (j : Int) ∧ j < 60 := by
  rcases fF_r (p := fun n => chg G n && !decide (one G tr (stk G n) = -1000000)) (m := 60) (n := 0) with e | ⟨j, j1, j2, j3, j4⟩
  · have e : two G tr = -1000000 := e
    omega
  · have j1 : two G tr = (j : Int) := j1
    have : j = n := by omega
    subst this
    rw [Bool.and_eq_true] at j4
    rcases one_r (G := G) (T := stk G j) (tr := tr) with u | u
    · have := j4.2
      rw [u] at this
      simp at this
    · exact u
theorem q_43 {h : zH} {Q : Option Value → zH → Prop} {G : Nat → Int} (a2 : Int32) (tr : Bool) (C : CT1 h 15 G) (e2 : (a2.toInt = 0 ∧ tr = false) ∨ (¬ a2.toInt = 0 ∧ tr = true)) (H : pP G tr (fun a b c => ∀ h' : zH, (∀ q, q ≠ 54 → h'.1 q = h.1 q) → pln h' a b c → Q none h')) : zqm 43 [.ref 54, .ref 15, .int a2] h Q := by
  obtain ⟨H0, H1, H2, H3⟩ := H
  have c7 : pl (h.1 15 4) (fun c => G (15 + c)) := C.2.2.2.2.2.2.1
  have c11 : h.1 15 8 = mkm (gyI G) 15 := C.2.2.2.2.2.2.2.2.2.2.1
  have t0 : tS G G := ⟨fun _ _ _ => rfl, fun d hd => (C.2.1.1 d hd).2.1⟩
  have cN : (-1000000 : Int32).toInt = -1000000 := by decide
  have C2 : CT1 (zSet (zSet h 54 2 (-1000000 : Int32)) 54 1 (-1000000 : Int32)) 15 G := C1_fr (fun q a b => by rw [zs_q (by omega), zs_q (by omega)]) C
  have go : ∀ m : Int32, m = mkm (fun c => tr || gyI G c) 15 → zqm 47 [.ref 15, .int (h.1 15 4), .int m] (zSet (zSet h 54 2 (-1000000 : Int32)) 54 1 (-1000000 : Int32)) (fun rv h2 => zri rv (fun v2 => ((v2.toInt = 0 → zqm 45 [.ref 15, .int (h2.1 15 4), .int m] h2 (fun rv h4 => zri rv (fun v4 => ((¬ v4.toInt = (-1000000 : Int) → Q none (zSet (zSet h4 54 1 v4) 54 0 (Int32.ofInt 1))) ∧ (¬ (¬ v4.toInt = (-1000000 : Int)) → zqm 44 [.ref 54, .ref 15, .int m] (zSet (zSet h4 54 1 v4) 54 0 (Int32.ofInt 1)) (fun _ h6 => Q none h6)))))) ∧ (¬ (v2.toInt = 0) → Q none (zSet h2 54 0 (Int32.ofInt 0)))))) := fun m em => by
    refine q_47 _ m tr C2 t0 c7 em ?_
    refine zri_int ⟨fun z => ?_, fun z => ?_⟩
    · have z := zb0.mp z
      refine q_45 _ m tr C2 t0 (by rw [zs_q (by decide), zs_q (by decide)]; exact c7) em (fun v4 e4 => ?_)
      refine zri_int ⟨fun y => ?_, fun y => ?_⟩
      · rcases one_r (G := G) (T := G) (tr := tr) with u | ⟨j, u1, u2⟩
        · exact absurd (e4.trans u) y
        · refine H1 z j u2 u1 _ (fun q hq => by rw [zs_q hq, zs_q hq, zs_q hq, zs_q hq]) ⟨?_, ?_, ?_⟩
          · rw [wk_at]; exact kc_1
          · rw [wk_ne (Or.inr (by decide)), wk_at, e4, u1]
          · rw [wk_ne (Or.inr (by decide)), wk_ne (Or.inr (by decide)), wk_ne (Or.inr (by decide)), wk_at]; exact cN
      · have y := Decidable.not_not.mp y
        have u : one G tr G = -1000000 := e4.symm.trans y
        refine s_44 m (fun f => ?_)
        have ff : ∀ q, q ≠ 54 → (zSet (zSet (zSet (zSet (zSet h 54 2 (-1000000 : Int32)) 54 1 (-1000000 : Int32)) 54 1 v4) 54 0 (Int32.ofInt 1)) 54 0 (-1000000 : Int32)).1 q = h.1 q := fun q hq => by rw [zs_q hq, zs_q hq, zs_q hq, zs_q hq, zs_q hq]
        refine l_44 (g := h) (Q := fun _ h6 => Q none h6) m tr C em (fun tw h' g1 g2 => H3 z u tw h' g1 g2) (fun n hn tw h' g1 g2 => ?_) f 60 0 _ _ kc_0 (by omega) rfl ff ⟨?_, ?_, ?_⟩
        · obtain ⟨j, j1, j2⟩ := two_r tw
          rw [j1] at g2
          exact H2 z u n j hn j2 tw j1 h' g1 g2
        · rw [wk_at]; exact cN
        · rw [wk_ne (Or.inr (by decide)), wk_ne (Or.inr (by decide)), wk_at]; exact y
        · rw [wk_ne (Or.inr (by decide)), wk_ne (Or.inr (by decide)), wk_ne (Or.inr (by decide)), wk_ne (Or.inr (by decide)), wk_at]; exact cN
    · have z := zb1.mp z
      refine H0 z _ (fun q hq => by rw [zs_q hq, zs_q hq, zs_q hq]) ⟨?_, ?_, ?_⟩
      · rw [wk_at]; exact kc_0
      · rw [wk_ne (Or.inr (by decide)), wk_at]; exact cN
      · rw [wk_ne (Or.inr (by decide)), wk_ne (Or.inr (by decide)), wk_at]; exact cN
  refine s_43 a2 ⟨fun z => ?_, fun z => ?_⟩
  · have e : tr = false := e2.elim (fun u => u.2) (fun u => absurd z u.1)
    refine go (h.1 15 8) ?_
    rw [c11, e]
    exact mkm_congr (by omega) (fun c hc => (Bool.false_or _).symm)
  · have e : tr = true := e2.elim (fun u => absurd u.1 z) (fun u => u.2)
    refine go _ ?_
    rw [e]
    refine Eq.trans (show Int32.ofInt 32767 = mkm (fun _ => true) 15 by decide) (mkm_congr (by omega) (fun c hc => (Bool.true_or _).symm))

/-! in what order they sign -/
def bef (f : Nat → Int) (s o : Nat) : Bool := decide (f o < f s ∨ (f o = f s ∧ o < s))
def sgF (a : Nat → Nat) (k : Int) : Nat → Nat → Int
  | 0, _ => -1000000
  | m + 1, s => if (a s : Int) = k then (s : Int) else sgF a k m (s + 1)
theorem cnt_s {p : Nat → Bool} {n : Nat} : cnt p (n + 1) = cnt p n + (if p n then 1 else 0) := rfl
theorem l_32 {h : zH} {Q : Option Value → zH → Prop} {G : Nat → Int} (x1 x2 : Int32) (s K : Nat) (p : Nat → Bool) (C : CT1 h 15 G) (e1 : x1.toInt = (s : Int)) (hK : G 57 = (K : Int)) (ex : x2 = mkm p 15) (H : ∀ v : Int32, v.toInt = ((cnt (bef (fun o => itcS G o p 15) s) K : Nat) : Int) → Q (some (.int v)) h) : ∀ (n o : Nat) (x3 x4 x5 : Int32) (o6 : Option Value), x4.toInt = itcS G s p 15 → x5.toInt = (o : Int) → o ≤ K → x3.toInt = ((cnt (bef (fun o => itcS G o p 15) s) o : Nat) : Int) → zQ n 32 13 [some (.ref 15), some (.int x1), some (.int x2), some (.int x3), some (.int x4), some (.int x5), o6] [] h Q
  | 0, _, _, _, _, _, _, _, _, _ => zQ_zero
  | n + 1, o, x3, x4, x5, o6, e4, e5, ho, e3 => by
    have c9 : (h.1 15 6).toInt = G 57 := C.2.2.2.2.2.2.2.2.1
    have w2 := C.2.1.2.1
    have cl := cnt_le (bef (fun o => itcS G o p 15) s) o
    refine s_32_13 x1 x2 x3 x4 x5 o6 ⟨fun d => ?_, fun d => ?_⟩
    · have : o = K := by omega
      subst this
      exact H x3 e3
    · have e5' := ai (x := x5) (k := 1) (by omega) (by omega) (by omega) (by omega)
      have e3' := ai (x := x3) (k := 1) (by omega) (by omega) (by omega) (by omega)
      have cs := cnt_s (p := bef (fun o => itcS G o p 15) s) (n := o)
      refine q_17 x5 x2 o p C e5 (by omega) ex (fun v ev => ?_)
      refine zri_int ?_
      have up : bef (fun o => itcS G o p 15) s o = true → x3.toInt + 1 = ((cnt (bef (fun o => itcS G o p 15) s) (o + 1) : Nat) : Int) := fun t => by
        rw [cs, if_pos t]
        omega
      have nu : bef (fun o => itcS G o p 15) s o = false → x3.toInt = ((cnt (bef (fun o => itcS G o p 15) s) (o + 1) : Nat) : Int) := fun t => by
        rw [cs, t, if_neg (by decide)]
        omega
      refine ⟨fun z => ?_, fun z => ⟨fun y => ?_, fun y => ⟨fun w => ?_, fun w => ?_⟩⟩⟩
      · exact l_32 x1 x2 s K p C e1 hK ex H n (o + 1) _ _ _ _ e4 (by omega) (by omega) (by rw [e3']; exact up (decide_eq_true (show itcS G o p 15 < itcS G s p 15 ∨ (itcS G o p 15 = itcS G s p 15 ∧ o < s) by omega)))
      · exact l_32 x1 x2 s K p C e1 hK ex H n (o + 1) _ _ _ _ e4 (by omega) (by omega) (nu (decide_eq_false (show ¬ (itcS G o p 15 < itcS G s p 15 ∨ (itcS G o p 15 = itcS G s p 15 ∧ o < s)) by omega)))
      · exact l_32 x1 x2 s K p C e1 hK ex H n (o + 1) _ _ _ _ e4 (by omega) (by omega) (nu (decide_eq_false (show ¬ (itcS G o p 15 < itcS G s p 15 ∨ (itcS G o p 15 = itcS G s p 15 ∧ o < s)) by omega)))
      · exact l_32 x1 x2 s K p C e1 hK ex H n (o + 1) _ _ _ _ e4 (by omega) (by omega) (by rw [e3']; exact up (decide_eq_true (show itcS G o p 15 < itcS G s p 15 ∨ (itcS G o p 15 = itcS G s p 15 ∧ o < s) by omega)))
theorem l_31 {h : zH} {Q : Option Value → zH → Prop} {G : Nat → Int} (x1 x2 : Int32) (K : Nat) (p : Nat → Bool) (C : CT1 h 15 G) (hK : G 57 = (K : Int)) (ex : x2 = mkm p 15) : ∀ (n m s : Nat) (x3 : Int32), x3.toInt = (s : Int) → s + m = K → (∀ v : Int32, v.toInt = sgF (fun s => cnt (bef (fun o => itcS G o p 15) s) K) x1.toInt m s → Q (some (.int v)) h) → zQ n 31 7 [some (.ref 15), some (.int x1), some (.int x2), some (.int x3)] [] h Q
  | 0, _, _, _, _, _, _ => zQ_zero
  | n + 1, m, s, x3, e3, hm, H => by
    have c9 : (h.1 15 6).toInt = G 57 := C.2.2.2.2.2.2.2.2.1
    have w2 := C.2.1.2.1
    refine s_31_7 x1 x2 x3 ⟨fun d => ?_, fun d => ?_⟩
    · have : m = 0 := by omega
      subst this
      exact H _ (show (-1000000 : Int32).toInt = (-1000000 : Int) by decide)
    · obtain ⟨m', rfl⟩ : ∃ m', m = m' + 1 := ⟨m - 1, by omega⟩
      have e3' := ai (x := x3) (k := 1) (by omega) (by omega) (by omega) (by omega)
      refine s_32 x3 x2 (fun n2 => ?_)
      refine q_17 x3 x2 s p C e3 (by omega) ex (fun v ev => ?_)
      refine zri_int ?_
      refine l_32 x3 x2 s K p C e3 hK ex (fun u eu => ?_) n2 0 _ _ _ _ ev kc_0 (by omega) kc_0
      refine zri_int ?_
      have st : sgF (fun s => cnt (bef (fun o => itcS G o p 15) s) K) x1.toInt (m' + 1) s = if ((cnt (bef (fun o => itcS G o p 15) s) K : Nat) : Int) = x1.toInt then (s : Int) else sgF (fun s => cnt (bef (fun o => itcS G o p 15) s) K) x1.toInt m' (s + 1) := rfl
      refine ⟨fun z => ?_, fun z => H x3 ?_⟩
      · refine l_31 x1 x2 K p C hK ex n m' (s + 1) _ (by omega) (by omega) (fun w ew => H w ?_)
        rw [st, if_neg (by rw [← eu]; exact z)]
        exact ew
      · rw [st, if_pos (by rw [← eu]; exact Decidable.not_not.mp z)]
        exact e3
theorem l_192_40 {h : zH} {Q : Option Value → zH → Prop} (x1 x2 : Int32) (s K : Nat) (w : wfG (nowG h)) (cS : h.1 58 13 = mkm (smB (gyD (nowG h))) 15) (cF : ∀ s : Nat, (s : Int) < nowG h 57 → h.1 66 s = mkm (flB (gyD (nowG h)) (gyE (nowG h) s)) 15) (e2 : x2.toInt = (s : Int)) (sK : s < K) (hK : nowG h 57 = (K : Int)) (n1 : Nat) (H : ∀ (n : Nat) (x3 : Int32) (o4 : Option Value), n ≤ n1 → x3.toInt = ((cnt (bef (fun o => itcS (nowG h) o (wr (nowG h)) 15) s) K : Nat) : Int) → (¬ x3.toInt = x1.toInt → zQ n 192 24 [some (.ref 58), some (.int x1), some (.int (x2 + Int32.ofInt 1)), some (.int x3), o4] [] h Q) ∧ (x3.toInt = x1.toInt → Q (some (.int x2)) h)) : ∀ (n o : Nat) (x3 x4 : Int32), n ≤ n1 → x4.toInt = (o : Int) → o ≤ K → x3.toInt = ((cnt (bef (fun o => itcS (nowG h) o (wr (nowG h)) 15) s) o : Nat) : Int) → zQ n 192 40 [some (.ref 58), some (.int x1), some (.int x2), some (.int x3), some (.int x4)] [] h Q
  | 0, _, _, _, _, _, _, _ => zQ_zero
  | n + 1, o, x3, x4, hn, e4, ho, e3 => by
    have w2 := w.2.1
    have cl := cnt_le (bef (fun o => itcS (nowG h) o (wr (nowG h)) 15) s) o
    have e57 : (h.1 64 57).toInt = nowG h 57 := rfl
    refine s_192_40 x1 x2 x3 x4 ⟨fun d => ?_, fun d => ?_⟩
    · have : o = K := by omega
      subst this
      have hh := H n x3 (some (.int x4)) (by omega) e3
      exact ⟨hh.1, fun z => hh.2 (Decidable.not_not.mp z)⟩
    · have e4' := ai (x := x4) (k := 1) (by omega) (by omega) (by omega) (by omega)
      have e31 := ai (x := x3) (k := 1) (by omega) (by omega) (by omega) (by omega)
      have e30 := ai (x := x3) (k := 0) (by omega) (by omega) (by omega) (by omega)
      have cs := cnt_s (p := bef (fun o => itcS (nowG h) o (wr (nowG h)) 15) s) (n := o)
      have up : bef (fun o => itcS (nowG h) o (wr (nowG h)) 15) s o = true → (x3 + Int32.ofInt 1).toInt = ((cnt (bef (fun o => itcS (nowG h) o (wr (nowG h)) 15) s) (o + 1) : Nat) : Int) := fun t => by
        rw [cs, if_pos t]
        omega
      have nu : bef (fun o => itcS (nowG h) o (wr (nowG h)) 15) s o = false → (x3 + Int32.ofInt 0).toInt = ((cnt (bef (fun o => itcS (nowG h) o (wr (nowG h)) 15) s) (o + 1) : Nat) : Int) := fun t => by
        rw [cs, t, if_neg (by decide)]
        omega
      refine q_165 x4 o e4 w (by omega) (cF o (by omega)) cS (fun v3 ev3 => ?_)
      refine zri_int ?_
      refine q_165 x2 s e2 w (by omega) (cF s (by omega)) cS (fun v4 ev4 => ?_)
      refine zri_int ?_
      refine ⟨fun z => ?_, fun z => ?_⟩
      · exact l_192_40 x1 x2 s K w cS cF e2 sK hK n1 H n (o + 1) _ _ (by omega) (by omega) (by omega) (up (decide_eq_true (show itcS (nowG h) o (wr (nowG h)) 15 < itcS (nowG h) s (wr (nowG h)) 15 ∨ (itcS (nowG h) o (wr (nowG h)) 15 = itcS (nowG h) s (wr (nowG h)) 15 ∧ o < s) by omega)))
      · refine q_165 x4 o e4 w (by omega) (cF o (by omega)) cS (fun v6 ev6 => ?_)
        refine zri_int ?_
        refine q_165 x2 s e2 w (by omega) (cF s (by omega)) cS (fun v7 ev7 => ?_)
        refine zri_int ?_
        refine ⟨fun y => ?_, fun y => ⟨fun u => ?_, fun u => ?_⟩⟩
        · exact l_192_40 x1 x2 s K w cS cF e2 sK hK n1 H n (o + 1) _ _ (by omega) (by omega) (by omega) (nu (decide_eq_false (show ¬ (itcS (nowG h) o (wr (nowG h)) 15 < itcS (nowG h) s (wr (nowG h)) 15 ∨ (itcS (nowG h) o (wr (nowG h)) 15 = itcS (nowG h) s (wr (nowG h)) 15 ∧ o < s)) by omega)))
        · exact l_192_40 x1 x2 s K w cS cF e2 sK hK n1 H n (o + 1) _ _ (by omega) (by omega) (by omega) (nu (decide_eq_false (show ¬ (itcS (nowG h) o (wr (nowG h)) 15 < itcS (nowG h) s (wr (nowG h)) 15 ∨ (itcS (nowG h) o (wr (nowG h)) 15 = itcS (nowG h) s (wr (nowG h)) 15 ∧ o < s)) by omega)))
        · exact l_192_40 x1 x2 s K w cS cF e2 sK hK n1 H n (o + 1) _ _ (by omega) (by omega) (by omega) (up (decide_eq_true (show itcS (nowG h) o (wr (nowG h)) 15 < itcS (nowG h) s (wr (nowG h)) 15 ∨ (itcS (nowG h) o (wr (nowG h)) 15 = itcS (nowG h) s (wr (nowG h)) 15 ∧ o < s) by omega)))
theorem l_192_24 {h : zH} {Q : Option Value → zH → Prop} (x1 : Int32) (K : Nat) (w : wfG (nowG h)) (cS : h.1 58 13 = mkm (smB (gyD (nowG h))) 15) (cF : ∀ s : Nat, (s : Int) < nowG h 57 → h.1 66 s = mkm (flB (gyD (nowG h)) (gyE (nowG h) s)) 15) (hK : nowG h 57 = (K : Int)) : ∀ (m n s : Nat) (x2 : Int32) (o3 o4 : Option Value), x2.toInt = (s : Int) → s + m = K → (∀ v : Int32, v.toInt = sgF (fun s => cnt (bef (fun o => itcS (nowG h) o (wr (nowG h)) 15) s) K) x1.toInt m s → Q (some (.int v)) h) → zQ n 192 24 [some (.ref 58), some (.int x1), some (.int x2), o3, o4] [] h Q := by
  intro m
  induction m with
  | zero =>
    intro n s x2 o3 o4 e2 hm H
    have e57 : (h.1 64 57).toInt = nowG h 57 := rfl
    cases n with
    | zero => exact zQ_zero
    | succ n => exact s_192_24 x1 x2 o3 o4 ⟨fun _ => H _ (show (-1000000 : Int32).toInt = (-1000000 : Int) by decide), fun d => absurd (by omega) d⟩
  | succ m ih =>
    intro n s x2 o3 o4 e2 hm H
    have e57 : (h.1 64 57).toInt = nowG h 57 := rfl
    have w2 := w.2.1
    have st : sgF (fun s => cnt (bef (fun o => itcS (nowG h) o (wr (nowG h)) 15) s) K) x1.toInt (m + 1) s = if ((cnt (bef (fun o => itcS (nowG h) o (wr (nowG h)) 15) s) K : Nat) : Int) = x1.toInt then (s : Int) else sgF (fun s => cnt (bef (fun o => itcS (nowG h) o (wr (nowG h)) 15) s) K) x1.toInt m (s + 1) := rfl
    have e2' := ai (x := x2) (k := 1) (by omega) (by omega) (by omega) (by omega)
    cases n with
    | zero => exact zQ_zero
    | succ n =>
      refine s_192_24 x1 x2 o3 o4 ⟨fun d => by exfalso; omega, fun _ => ?_⟩
      refine l_192_40 x1 x2 s K w cS cF e2 (by omega) hK n (fun n' x3 o4 _ ex => ⟨fun z => ?_, fun z => H x2 ?_⟩) n 0 _ _ (Nat.le_refl n) kc_0 (by omega) kc_0
      · refine ih n' (s + 1) _ _ _ (by omega) (by omega) (fun v ev => H v ?_)
        rw [st, if_neg (by rw [← ex]; exact z)]
        exact ev
      · rw [st, if_pos (by rw [← ex]; exact z)]
        exact e2
theorem pr_sign : pr2 101 192 1 JC := by
  intro as hl hv h ht hJ
  match as, hl, hv with
  | [v1], hl, hv =>
    obtain ⟨a, rfl⟩ := hv v1 (by simp)
    by_cases hs : nowG h 61 = 1
    · obtain ⟨C, cS, cF⟩ := JC_1 hJ hs
      obtain ⟨c1, c2, c3, c4, c5, c6, c7, c8, c9, c10, c11, c12, c13⟩ := id C
      obtain ⟨w1, w2, w3, w4, w5, w6⟩ := id c2
      obtain ⟨K, eK⟩ : ∃ K : Nat, nowG h 57 = (K : Int) := ⟨(nowG h 57).toNat, by omega⟩
      have REF : ∀ P : Option Value → zH → Prop, (0 ≤ a.toInt ∧ a.toInt ≤ 3 → ∀ v : Int32, v.toInt = sgF (fun s => cnt (bef (fun o => itcS (nowG h) o (wr (nowG h)) 15) s) K) a.toInt K 0 → P (some (.int v)) h) → (¬ (0 ≤ a.toInt ∧ a.toInt ≤ 3) → P (some (.int (-1000001 : Int32))) h) → zqm 192 [.ref 58, .int a] h P := fun P k1 kb => by
        refine s_192 a (fun n => ?_)
        refine q_150 ?_
        refine zri_int ?_
        refine ⟨fun _ => ?_, fun t => absurd hs (zb2.mp t)⟩
        refine q_121 _ _ _ ?_
        refine zri_int ?_
        rw [kc_0, kc_3]
        refine ⟨fun t => ?_, fun t => kb (zb2.mp t)⟩
        exact l_192_24 a K c2 cS cF eK K n 0 _ _ _ kc_0 (by omega) (k1 (zb1.mp t))
      refine s_101 a ⟨fun _ => ⟨fun y _ => ?_, fun y => ⟨fun x => ?_, fun x _ => ?_⟩⟩, fun z => absurd (by rw [c3]; decide) z⟩
      · exact REF _ (fun t => by exfalso; omega) (fun _ _ => ⟨rfl, hJ⟩)
      · refine s_31 a (fun n => ?_)
        refine q_25 (nowG h) c6 c7 (fun c hc => ⟨(w1 c hc).1, (w1 c hc).2.1⟩) ?_
        refine zri_int ?_
        refine l_31 a _ K (wr (nowG h)) C eK rfl n K 0 _ kc_0 (by omega) (fun v ev => ?_)
        refine zri_int (fun _ => ?_)
        exact REF _ (fun _ u eu _ => ⟨vi (by rw [eu, ev]), hJ⟩) (fun t => by exfalso; omega)
      · exact REF _ (fun t => by exfalso; omega) (fun _ _ => ⟨rfl, hJ⟩)
    · obtain ⟨z1, z2⟩ := JC_0 hJ hs
      refine s_101 a ⟨fun z => absurd (z2 0 (by decide)) z, fun _ _ => ?_⟩
      refine s_192 a (fun n => ?_)
      refine q_150 ?_
      refine zri_int ?_
      exact ⟨fun z => absurd (zb1.mp z) hs, fun _ _ => ⟨rfl, hJ⟩⟩

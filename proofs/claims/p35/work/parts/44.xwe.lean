/-! asked of one: by which bodies it answers -/
theorem C1_fr {h h' : zH} {G : Nat → Int} (f : ∀ q : Nat, 15 ≤ q → q < 15 + 8 → h'.1 q = h.1 q) (C : CT1 h 15 G) : CT1 h' 15 G := by
  rcases CT_fr f (Or.inr C) with c | c
  · have := c.1 61 (by decide)
    rw [C.1] at this
    exact absurd this (by decide)
  · exact c
theorem gd_l {L : List Nat} {b i : Nat} (h : i < L.length) : (L ++ [b]).getD i 0 = L.getD i 0 := by
  rw [List.getD_eq_getElem?_getD, List.getD_eq_getElem?_getD, List.getElem?_append_left h]
theorem gd_r {L : List Nat} {b : Nat} : (L ++ [b]).getD L.length 0 = b := by
  rw [List.getD_eq_getElem?_getD, List.getElem?_append_right (Nat.le_refl _), Nat.sub_self]
  rfl
theorem ln1 {L : List Nat} {b : Nat} : (L ++ [b]).length = L.length + 1 := by rw [List.length_append]; rfl
def trA (g h0 : zH) (L : List Nat) : Prop := (∀ q : Nat, q ≠ 52 → q ≠ 53 → g.1 q = h0.1 q) ∧ (g.1 52 1).toInt = (L.length : Int) ∧ ∀ i : Nat, i < L.length → (g.1 53 i).toInt = ((L.getD i 0 : Nat) : Int)
def akS (h0 : zH) (G : Nat → Int) (a2 : Int32) (s : Nat) : Prop := CT1 h0 15 G ∧ a2.toInt = (s : Int) ∧ (s : Int) < G 57
theorem akS_C {h0 g : zH} {G : Nat → Int} {a2 : Int32} {s : Nat} {L : List Nat} (A : akS h0 G a2 s) (t : trA g h0 L) : CT1 g 15 G := C1_fr (fun q a b => t.1 q (by omega) (by omega)) A.1
theorem q_7t {h0 g : zH} {Q : Option Value → zH → Prop} {L : List Nat} (a1 : Int32) (b : Nat) (e : a1.toInt = (b : Int)) (t : trA g h0 L) (hl : L.length < 16) (H : ∀ g' : zH, trA g' h0 (L ++ [b]) → Q none g') : zqm 7 [.ref 52, .int a1] g Q := by
  obtain ⟨t1, t2, t3⟩ := t
  refine s_7 a1 ⟨fun d => by exfalso; omega, fun _ _ _ => H _ ⟨fun q q1 q2 => ?_, ?_, fun i hi => ?_⟩⟩
  · rw [zs_q q1, zs_q q2]
    exact t1 q q1 q2
  · rw [wk_at, ai (by omega) (by omega) (by omega) (by omega), ln1, t2]
    omega
  · rw [ln1] at hi
    rw [zs_q (by decide)]
    by_cases z : i = L.length
    · subst z
      rw [show (g.1 52 1).toInt.toNat = L.length by omega, wk_at, e, gd_r]
    · rw [wk_ne (Or.inr (by omega)), gd_l (by omega)]
      exact t3 i (by omega)
theorem q_20a {h0 g : zH} {Q : Option Value → zH → Prop} {G : Nat → Int} {L : List Nat} {a2 : Int32} {s : Nat} (A : akS h0 G a2 s) (t : trA g h0 L) (H : Q (some (.int (Int32.ofInt 1))) g) : zqm 20 [.ref 15, .int a2] g Q := by
  have C := akS_C A t
  have c9 : (g.1 15 6).toInt = G 57 := C.2.2.2.2.2.2.2.2.1
  have w2 := C.2.1.2.1
  have A2 := A.2.1
  have A3 := A.2.2
  refine q_20 a2 (by omega) ?_
  rw [show zbo (0 ≤ a2.toInt ∧ a2.toInt < (g.1 15 6).toInt) = Int32.ofInt 1 from if_pos (by omega)]
  exact H
theorem qg10 {h0 g : zH} {Q : Option Value → zH → Prop} {G : Nat → Int} {L : List Nat} {a2 a3 a4 : Int32} {s : Nat} (A : akS h0 G a2 s) (t : trA g h0 L) (hl : L.length < 16) (e3 : a3.toInt = ((10 : Nat) : Int)) (d4 : a4.toInt ≤ 12) (H : ∀ (v : Int32) (g' : zH), v.toInt = itcS G s (wr G) 15 → trA g' h0 (L ++ [10]) → Q (some (.int v)) g') : zqm 6 [.ref 52, .ref 15, .int a2, .int a3, .int a4] g Q := by
  refine s_6 a2 a3 a4 ⟨fun d => by exfalso; omega, fun _ => ?_⟩
  refine q_20a A t (zri_int ⟨fun _ => ?_, fun z => absurd (by decide) z⟩)
  refine q_7t a3 10 e3 t hl (fun g' t' => ?_)
  have C := akS_C A t'
  refine ⟨fun k => ?_, fun k => ?_, fun k => ?_, fun k => ?_, fun k => ?_, fun k => ?_, fun k => ?_, fun k => ?_, fun k => ?_, fun k => ?_, fun k => ?_, fun k => ?_, fun k => ?_, fun k => ?_, fun k => ?_, fun k => ?_⟩
  all_goals try (exfalso; omega)
  refine q_25 G C.2.2.2.2.2.1 C.2.2.2.2.2.2.1 (fun c hc => ⟨(C.2.1.1 c hc).1, (C.2.1.1 c hc).2.1⟩) ?_
  refine zri_int ?_
  refine q_17 a2 _ s (wr G) C A.2.1 A.2.2 rfl (fun v ev => ?_)
  exact zri_int (H v g' ev t')
theorem qg20 {h0 g : zH} {Q : Option Value → zH → Prop} {G : Nat → Int} {L : List Nat} {a2 a3 a4 : Int32} {s : Nat} (A : akS h0 G a2 s) (t : trA g h0 L) (hl : L.length < 16) (e3 : a3.toInt = ((20 : Nat) : Int)) (d4 : a4.toInt ≤ 12) (H : ∀ g' : zH, trA g' h0 (L ++ [20]) → Q (some (.int a2)) g') : zqm 6 [.ref 52, .ref 15, .int a2, .int a3, .int a4] g Q := by
  refine s_6 a2 a3 a4 ⟨fun d => by exfalso; omega, fun _ => ?_⟩
  refine q_20a A t (zri_int ⟨fun _ => ?_, fun z => absurd (by decide) z⟩)
  refine q_7t a3 20 e3 t hl (fun g' t' => ?_)
  refine ⟨fun k => ?_, fun k => ?_, fun k => ?_, fun k => ?_, fun k => ?_, fun k => ?_, fun k => ?_, fun k => ?_, fun k => ?_, fun k => ?_, fun k => ?_, fun k => ?_, fun k => ?_, fun k => ?_, fun k => ?_, fun k => ?_⟩
  all_goals try (exfalso; omega)
  exact H g' t'
theorem qg21 {h0 g : zH} {Q : Option Value → zH → Prop} {G : Nat → Int} {L : List Nat} {a2 a3 a4 : Int32} {s : Nat} (A : akS h0 G a2 s) (t : trA g h0 L) (hl : L.length < 15) (e3 : a3.toInt = ((21 : Nat) : Int)) (d0 : 0 ≤ a4.toInt) (d4 : a4.toInt ≤ 11) (H : ∀ (v : Int32) (g' : zH), v.toInt = (s : Int) + gyS G s → trA g' h0 (L ++ [21] ++ [20]) → Q (some (.int v)) g') : zqm 6 [.ref 52, .ref 15, .int a2, .int a3, .int a4] g Q := by
  have A2 := A.2.1
  have A3 := A.2.2
  have w2 := A.1.2.1.2.1
  obtain ⟨-, -, s1, s5⟩ := A.1.2.1.2.2.2.2.1 s A.2.2
  refine s_6 a2 a3 a4 ⟨fun d => by exfalso; omega, fun _ => ?_⟩
  refine q_20a A t (zri_int ⟨fun _ => ?_, fun z => absurd (by decide) z⟩)
  refine q_7t a3 21 e3 t (by omega) (fun g' t' => ?_)
  have l1 := @ln1 L 21
  have e4 := ai (x := a4) (k := 1) (by omega) (by omega) (by omega) (by omega)
  refine ⟨fun k => ?_, fun k => ?_, fun k => ?_, fun k => ?_, fun k => ?_, fun k => ?_, fun k => ?_, fun k => ?_, fun k => ?_, fun k => ?_, fun k => ?_, fun k => ?_, fun k => ?_, fun k => ?_, fun k => ?_, fun k => ?_⟩
  all_goals try (exfalso; omega)
  refine qg20 A t' (by omega) (by decide) (by omega) (fun g2 t2 => ?_)
  refine zri_int (fun _ _ => H _ g2 ?_ t2)
  have C := akS_C A t2
  obtain ⟨-, -, u3, -⟩ := C.2.2.2.2.2.2.2.2.2.2.2.2 s A.2.2
  have u3 : (g2.1 19 s).toInt = gyS G s := u3
  rw [show a2.toInt.toNat = s by omega]
  exact wk_add A2 u3 (by omega) (by omega)
theorem qg22 {h0 g : zH} {Q : Option Value → zH → Prop} {G : Nat → Int} {L : List Nat} {a2 a3 a4 : Int32} {s : Nat} (A : akS h0 G a2 s) (t : trA g h0 L) (hl : L.length < 14) (e3 : a3.toInt = ((22 : Nat) : Int)) (d0 : 0 ≤ a4.toInt) (d4 : a4.toInt ≤ 10) (H : ∀ (v : Int32) (g' : zH), v.toInt = (s : Int) + gyS G s - 1000 → trA g' h0 (L ++ [22] ++ [21] ++ [20]) → Q (some (.int v)) g') : zqm 6 [.ref 52, .ref 15, .int a2, .int a3, .int a4] g Q := by
  have A2 := A.2.1
  have A3 := A.2.2
  have w2 := A.1.2.1.2.1
  obtain ⟨-, -, s1, s5⟩ := A.1.2.1.2.2.2.2.1 s A.2.2
  refine s_6 a2 a3 a4 ⟨fun d => by exfalso; omega, fun _ => ?_⟩
  refine q_20a A t (zri_int ⟨fun _ => ?_, fun z => absurd (by decide) z⟩)
  refine q_7t a3 22 e3 t (by omega) (fun g' t' => ?_)
  have l1 := @ln1 L 22
  have e4 := ai (x := a4) (k := 1) (by omega) (by omega) (by omega) (by omega)
  refine ⟨fun k => ?_, fun k => ?_, fun k => ?_, fun k => ?_, fun k => ?_, fun k => ?_, fun k => ?_, fun k => ?_, fun k => ?_, fun k => ?_, fun k => ?_, fun k => ?_, fun k => ?_, fun k => ?_, fun k => ?_, fun k => ?_⟩
  all_goals try (exfalso; omega)
  refine qg21 A t' (by omega) (by decide) (by omega) (by omega) (fun v g2 ev t2 => ?_)
  exact zri_int (H _ g2 (wk_sub ev kc_1000 (by omega) (by omega)) t2)
theorem qg24 {h0 g : zH} {Q : Option Value → zH → Prop} {G : Nat → Int} {L : List Nat} {a2 a3 a4 : Int32} {s : Nat} (A : akS h0 G a2 s) (t : trA g h0 L) (hl : L.length < 14) (e3 : a3.toInt = ((24 : Nat) : Int)) (d0 : 0 ≤ a4.toInt) (d4 : a4.toInt ≤ 10) (H : ∀ (v : Int32) (g' : zH), v.toInt = 2 * ((s : Int) + gyS G s) → trA g' h0 (L ++ [24] ++ [21] ++ [20]) → Q (some (.int v)) g') : zqm 6 [.ref 52, .ref 15, .int a2, .int a3, .int a4] g Q := by
  have A2 := A.2.1
  have A3 := A.2.2
  have w2 := A.1.2.1.2.1
  obtain ⟨-, -, s1, s5⟩ := A.1.2.1.2.2.2.2.1 s A.2.2
  refine s_6 a2 a3 a4 ⟨fun d => by exfalso; omega, fun _ => ?_⟩
  refine q_20a A t (zri_int ⟨fun _ => ?_, fun z => absurd (by decide) z⟩)
  refine q_7t a3 24 e3 t (by omega) (fun g' t' => ?_)
  have l1 := @ln1 L 24
  have e4 := ai (x := a4) (k := 1) (by omega) (by omega) (by omega) (by omega)
  refine ⟨fun k => ?_, fun k => ?_, fun k => ?_, fun k => ?_, fun k => ?_, fun k => ?_, fun k => ?_, fun k => ?_, fun k => ?_, fun k => ?_, fun k => ?_, fun k => ?_, fun k => ?_, fun k => ?_, fun k => ?_, fun k => ?_⟩
  all_goals try (exfalso; omega)
  refine qg21 A t' (by omega) (by decide) (by omega) (by omega) (fun v g2 ev t2 => ?_)
  exact zri_int (H _ g2 (wk_mul kc_2 ev (by omega) (by omega)) t2)
def mkv (k s S : Int) : Int := if k = 2 then 2 * (s + S) else if k = 3 then s + S - 1000 else s + S
def mkl (k : Int) (L : List Nat) : List Nat := if k = 2 then L ++ [24] ++ [21] ++ [20] else if k = 3 then L ++ [22] ++ [21] ++ [20] else L ++ [21] ++ [20]
theorem mkv_r {k s S : Int} (s0 : 0 ≤ s) (s4 : s ≤ 4) (S1 : 1 ≤ S) (S5 : S ≤ 5) : -1000 ≤ mkv k s S ∧ mkv k s S ≤ 18 := by
  unfold mkv
  repeat' split
  all_goals omega
theorem mkl_l {k : Int} {L : List Nat} : (mkl k L).length ≤ L.length + 3 := by
  unfold mkl
  repeat' split
  all_goals simp only [List.length_append, List.length_cons, List.length_nil]
  all_goals omega
theorem zs2_v : ∀ k : Nat, k < 6 → (zs2 k).toInt = ([20, 21, 24, 22, 23, 23].getD k 0 : Nat) := by decide
theorem zs1_v : ∀ k : Nat, k < 6 → (zs1 k).toInt = ([10, 11, 12, 11, 13, 14].getD k 0 : Nat) := by decide
theorem q_9a {h0 g : zH} {Q : Option Value → zH → Prop} {G : Nat → Int} {L : List Nat} {a2 : Int32} {s : Nat} (A : akS h0 G a2 s) (t : trA g h0 L) (H : Q (some (.int (zs2 (gyK G s).toNat))) g) : zqm 9 [.ref 15, .int a2] g Q := by
  have C := akS_C A t
  have A2 := A.2.1
  obtain ⟨u1, -⟩ := C.2.2.2.2.2.2.2.2.2.2.2.2 s A.2.2
  have u1 : (g.1 17 s).toInt = gyK G s := u1
  obtain ⟨⟨k1, k5⟩, -⟩ := C.2.1.2.2.2.2.1 s A.2.2
  refine s_9 a2 ?_
  refine q_20a A t (zri_int ⟨fun z => absurd z (by decide), fun _ _ _ => ?_⟩)
  rw [show a2.toInt.toNat = s by omega, u1]
  exact ⟨fun z => by exfalso; omega, fun _ => ⟨fun z => by exfalso; omega, fun _ _ _ => H⟩⟩
theorem q_8a {h0 g : zH} {Q : Option Value → zH → Prop} {G : Nat → Int} {L : List Nat} {a2 : Int32} {s : Nat} (A : akS h0 G a2 s) (t : trA g h0 L) (H : Q (some (.int (zs1 (gyK G s).toNat))) g) : zqm 8 [.ref 15, .int a2] g Q := by
  have C := akS_C A t
  have A2 := A.2.1
  obtain ⟨u1, -⟩ := C.2.2.2.2.2.2.2.2.2.2.2.2 s A.2.2
  have u1 : (g.1 17 s).toInt = gyK G s := u1
  obtain ⟨⟨k1, k5⟩, -⟩ := C.2.1.2.2.2.2.1 s A.2.2
  refine s_8 a2 ?_
  refine q_20a A t (zri_int ⟨fun z => absurd z (by decide), fun _ _ _ => ?_⟩)
  rw [show a2.toInt.toNat = s by omega, u1]
  exact ⟨fun z => by exfalso; omega, fun _ => ⟨fun z => by exfalso; omega, fun _ _ _ => H⟩⟩
/-- the mark of a plain, a lazy, a tender one -/
theorem qgm {h0 g : zH} {Q : Option Value → zH → Prop} {G : Nat → Int} {L : List Nat} {a2 a3 a4 : Int32} {s : Nat} (A : akS h0 G a2 s) (t : trA g h0 L) (hl : L.length < 14) (k3 : gyK G s ≤ 3) (e3 : a3 = zs2 (gyK G s).toNat) (d0 : 0 ≤ a4.toInt) (d4 : a4.toInt ≤ 10) (H : ∀ (v : Int32) (g' : zH), v.toInt = mkv (gyK G s) (s : Int) (gyS G s) → trA g' h0 (mkl (gyK G s) L) → Q (some (.int v)) g') : zqm 6 [.ref 52, .ref 15, .int a2, .int a3, .int a4] g Q := by
  obtain ⟨⟨k1, k5⟩, -⟩ := A.1.2.1.2.2.2.2.1 s A.2.2
  have e3' := zs2_v (gyK G s).toNat (by omega)
  rw [← e3] at e3'
  unfold mkv mkl at H
  have hk : gyK G s = 1 ∨ gyK G s = 2 ∨ gyK G s = 3 := by omega
  rcases hk with k | k | k
  · rw [k] at H e3'
    exact qg21 A t (by omega) e3' d0 (by omega) (fun v g' ev t' => H v g' (by rw [if_neg (by decide), if_neg (by decide)]; exact ev) (by rw [if_neg (by decide), if_neg (by decide)]; exact t'))
  · rw [k] at H e3'
    exact qg24 A t (by omega) e3' d0 (by omega) (fun v g' ev t' => H v g' (by rw [if_pos rfl]; exact ev) (by rw [if_pos rfl]; exact t'))
  · rw [k] at H e3'
    exact qg22 A t (by omega) e3' d0 (by omega) (fun v g' ev t' => H v g' (by rw [if_neg (by decide), if_pos rfl]; exact ev) (by rw [if_neg (by decide), if_pos rfl]; exact t'))
theorem qg11 {h0 g : zH} {Q : Option Value → zH → Prop} {G : Nat → Int} {L : List Nat} {a2 a3 a4 : Int32} {s : Nat} (A : akS h0 G a2 s) (t : trA g h0 L) (hl : L.length < 12) (k3 : gyK G s ≤ 3) (e3 : a3.toInt = ((11 : Nat) : Int)) (d0 : 0 ≤ a4.toInt) (d4 : a4.toInt ≤ 9) (H : ∀ (v : Int32) (g' : zH), v.toInt = itcS G s (wr G) 15 + mkv (gyK G s) (s : Int) (gyS G s) → trA g' h0 (mkl (gyK G s) (L ++ [11] ++ [10])) → Q (some (.int v)) g') : zqm 6 [.ref 52, .ref 15, .int a2, .int a3, .int a4] g Q := by
  have A2 := A.2.1
  have A3 := A.2.2
  have w2 := A.1.2.1.2.1
  obtain ⟨-, -, s1, s5⟩ := A.1.2.1.2.2.2.2.1 s A.2.2
  have r1 := itcS_r (G := G) (s := s) (p := wr G) s1 s5 15
  have r2 := mkv_r (k := gyK G s) (s := (s : Int)) (S := gyS G s) (by omega) (by omega) s1 s5
  refine s_6 a2 a3 a4 ⟨fun d => by exfalso; omega, fun _ => ?_⟩
  refine q_20a A t (zri_int ⟨fun _ => ?_, fun z => absurd (by decide) z⟩)
  refine q_7t a3 11 e3 t (by omega) (fun g' t' => ?_)
  have l1 := @ln1 L 11
  have l2 := @ln1 (L ++ [11]) 10
  have e4 := ai (x := a4) (k := 1) (by omega) (by omega) (by omega) (by omega)
  refine ⟨fun k => ?_, fun k => ?_, fun k => ?_, fun k => ?_, fun k => ?_, fun k => ?_, fun k => ?_, fun k => ?_, fun k => ?_, fun k => ?_, fun k => ?_, fun k => ?_, fun k => ?_, fun k => ?_, fun k => ?_, fun k => ?_⟩
  all_goals try (exfalso; omega)
  refine qg10 A t' (by omega) (by decide) (by omega) (fun v g2 ev t2 => ?_)
  refine zri_int ?_
  refine q_9a A t2 (zri_int ?_)
  refine qgm A t2 (by omega) k3 rfl (by omega) (by omega) (fun v3 g3 ev3 t3 => ?_)
  exact zri_int (H _ g3 (wk_add ev ev3 (by omega) (by omega)) t3)
theorem ngk : ∀ k : Nat, k < 256 → (-(nI k)).toInt = -(k : Int) := by decide +kernel
theorem qg12 {h0 g : zH} {Q : Option Value → zH → Prop} {G : Nat → Int} {L : List Nat} {a2 a3 a4 : Int32} {s : Nat} (A : akS h0 G a2 s) (t : trA g h0 L) (hl : L.length < 11) (k2 : gyK G s = 2) (e3 : a3.toInt = ((12 : Nat) : Int)) (d0 : 0 ≤ a4.toInt) (d4 : a4.toInt ≤ 8) (H : ∀ (v : Int32) (g' : zH), v.toInt = -(itcS G s (wr G) 15 + mkv (gyK G s) (s : Int) (gyS G s)) → trA g' h0 (mkl (gyK G s) (L ++ [12] ++ [11] ++ [10])) → Q (some (.int v)) g') : zqm 6 [.ref 52, .ref 15, .int a2, .int a3, .int a4] g Q := by
  have A2 := A.2.1
  have A3 := A.2.2
  have w2 := A.1.2.1.2.1
  obtain ⟨-, -, s1, s5⟩ := A.1.2.1.2.2.2.2.1 s A.2.2
  have r1 := itcS_r (G := G) (s := s) (p := wr G) s1 s5 15
  have r2 : mkv (gyK G s) (s : Int) (gyS G s) = 2 * ((s : Int) + gyS G s) := if_pos k2
  refine s_6 a2 a3 a4 ⟨fun d => by exfalso; omega, fun _ => ?_⟩
  refine q_20a A t (zri_int ⟨fun _ => ?_, fun z => absurd (by decide) z⟩)
  refine q_7t a3 12 e3 t (by omega) (fun g' t' => ?_)
  have l1 := @ln1 L 12
  have e4 := ai (x := a4) (k := 1) (by omega) (by omega) (by omega) (by omega)
  refine ⟨fun k => ?_, fun k => ?_, fun k => ?_, fun k => ?_, fun k => ?_, fun k => ?_, fun k => ?_, fun k => ?_, fun k => ?_, fun k => ?_, fun k => ?_, fun k => ?_, fun k => ?_, fun k => ?_, fun k => ?_, fun k => ?_⟩
  all_goals try (exfalso; omega)
  refine qg11 A t' (by omega) (by omega) (by decide) (by omega) (by omega) (fun v g2 ev t2 => ?_)
  refine zri_int (H _ g2 ?_ t2)
  rw [x_nI (x := v) (k := v.toInt.toNat) (by omega) (by omega), ngk _ (by omega), ← ev]
  omega
theorem qg13 {h0 g : zH} {Q : Option Value → zH → Prop} {G : Nat → Int} {L : List Nat} {a2 a3 a4 : Int32} {s : Nat} (A : akS h0 G a2 s) (t : trA g h0 L) (hl : L.length < 15) (e3 : a3.toInt = ((13 : Nat) : Int)) (d0 : 0 ≤ a4.toInt) (d4 : a4.toInt ≤ 11) (H : ∀ (v : Int32) (g' : zH), v.toInt = itcS G s (wr G) 15 - 100 → trA g' h0 (L ++ [13] ++ [10]) → Q (some (.int v)) g') : zqm 6 [.ref 52, .ref 15, .int a2, .int a3, .int a4] g Q := by
  obtain ⟨-, -, s1, s5⟩ := A.1.2.1.2.2.2.2.1 s A.2.2
  have r1 := itcS_r (G := G) (s := s) (p := wr G) s1 s5 15
  refine s_6 a2 a3 a4 ⟨fun d => by exfalso; omega, fun _ => ?_⟩
  refine q_20a A t (zri_int ⟨fun _ => ?_, fun z => absurd (by decide) z⟩)
  refine q_7t a3 13 e3 t (by omega) (fun g' t' => ?_)
  have l1 := @ln1 L 13
  have e4 := ai (x := a4) (k := 1) (by omega) (by omega) (by omega) (by omega)
  refine ⟨fun k => ?_, fun k => ?_, fun k => ?_, fun k => ?_, fun k => ?_, fun k => ?_, fun k => ?_, fun k => ?_, fun k => ?_, fun k => ?_, fun k => ?_, fun k => ?_, fun k => ?_, fun k => ?_, fun k => ?_, fun k => ?_⟩
  all_goals try (exfalso; omega)
  refine qg10 A t' (by omega) (by decide) (by omega) (fun v g2 ev t2 => ?_)
  exact zri_int (H _ g2 (wk_sub ev (show (Int32.ofInt 100).toInt = 100 by decide) (by omega) (by omega)) t2)
theorem qg14 {h0 g : zH} {Q : Option Value → zH → Prop} {G : Nat → Int} {L : List Nat} {a2 a3 a4 : Int32} {s : Nat} (A : akS h0 G a2 s) (t : trA g h0 L) (hl : L.length < 14) (e3 : a3.toInt = ((14 : Nat) : Int)) (d0 : 0 ≤ a4.toInt) (d4 : a4.toInt ≤ 10) (H : ∀ (v : Int32) (g' : zH), v.toInt = 2 * (itcS G s (wr G) 15 - 100) → trA g' h0 (L ++ [14] ++ [13] ++ [10]) → Q (some (.int v)) g') : zqm 6 [.ref 52, .ref 15, .int a2, .int a3, .int a4] g Q := by
  obtain ⟨-, -, s1, s5⟩ := A.1.2.1.2.2.2.2.1 s A.2.2
  have r1 := itcS_r (G := G) (s := s) (p := wr G) s1 s5 15
  refine s_6 a2 a3 a4 ⟨fun d => by exfalso; omega, fun _ => ?_⟩
  refine q_20a A t (zri_int ⟨fun _ => ?_, fun z => absurd (by decide) z⟩)
  refine q_7t a3 14 e3 t (by omega) (fun g' t' => ?_)
  have l1 := @ln1 L 14
  have e4 := ai (x := a4) (k := 1) (by omega) (by omega) (by omega) (by omega)
  refine ⟨fun k => ?_, fun k => ?_, fun k => ?_, fun k => ?_, fun k => ?_, fun k => ?_, fun k => ?_, fun k => ?_, fun k => ?_, fun k => ?_, fun k => ?_, fun k => ?_, fun k => ?_, fun k => ?_, fun k => ?_, fun k => ?_⟩
  all_goals try (exfalso; omega)
  refine qg13 A t' (by omega) (by decide) (by omega) (by omega) (fun v g2 ev t2 => ?_)
  exact zri_int (H _ g2 (wk_mul kc_2 ev (by omega) (by omega)) t2)
def sv (k it s S : Int) : Int := if k = 2 then -(it + mkv k s S) else if k ≤ 3 then it + mkv k s S else if k = 4 then it - 100 else 2 * (it - 100)
def sl (k : Int) (L : List Nat) : List Nat := if k = 2 then mkl k (L ++ [12] ++ [11] ++ [10]) else if k ≤ 3 then mkl k (L ++ [11] ++ [10]) else if k = 4 then L ++ [13] ++ [10] else L ++ [14] ++ [13] ++ [10]
def mv (k it s S : Int) : Int := if k ≤ 3 then mkv k s S else s - sv k it s S
def ml (k : Int) (L : List Nat) : List Nat := if k ≤ 3 then mkl k L else sl k (L ++ [23] ++ [20])
theorem qgs {h0 g : zH} {Q : Option Value → zH → Prop} {G : Nat → Int} {L : List Nat} {a2 a3 a4 : Int32} {s : Nat} (A : akS h0 G a2 s) (t : trA g h0 L) (hl : L.length < 10) (e3 : a3 = zs1 (gyK G s).toNat) (d0 : 0 ≤ a4.toInt) (d4 : a4.toInt ≤ 7) (H : ∀ (v : Int32) (g' : zH), v.toInt = sv (gyK G s) (itcS G s (wr G) 15) (s : Int) (gyS G s) → trA g' h0 (sl (gyK G s) L) → Q (some (.int v)) g') : zqm 6 [.ref 52, .ref 15, .int a2, .int a3, .int a4] g Q := by
  obtain ⟨⟨k1, k5⟩, -⟩ := A.1.2.1.2.2.2.2.1 s A.2.2
  have e3' := zs1_v (gyK G s).toNat (by omega)
  rw [← e3] at e3'
  unfold sv sl at H
  by_cases z2 : gyK G s = 2
  · rw [if_pos z2, if_pos z2] at H
    rw [z2] at e3'
    exact qg12 A t (by omega) z2 e3' d0 (by omega) H
  · rw [if_neg z2, if_neg z2] at H
    by_cases z3 : gyK G s ≤ 3
    · rw [if_pos z3, if_pos z3] at H
      refine qg11 A t (by omega) z3 ?_ d0 (by omega) H
      have hk : gyK G s = 1 ∨ gyK G s = 3 := by omega
      rcases hk with k | k <;> (rw [k] at e3'; exact e3')
    · rw [if_neg z3, if_neg z3] at H
      by_cases z4 : gyK G s = 4
      · rw [if_pos z4, if_pos z4] at H
        rw [z4] at e3'
        exact qg13 A t (by omega) e3' d0 (by omega) H
      · rw [if_neg z4, if_neg z4] at H
        have z5 : gyK G s = 5 := by omega
        rw [z5] at e3'
        exact qg14 A t (by omega) e3' d0 (by omega) H
theorem sv_r {k it s S : Int} (i0 : 0 ≤ it) (i1 : it ≤ 150) (s0 : 0 ≤ s) (s4 : s ≤ 4) (S1 : 1 ≤ S) (S5 : S ≤ 5) : -2000 ≤ sv k it s S ∧ sv k it s S ≤ 2000 := by
  have := mkv_r (k := k) s0 s4 S1 S5
  unfold sv
  repeat' split
  all_goals omega
theorem qgk {h0 g : zH} {Q : Option Value → zH → Prop} {G : Nat → Int} {L : List Nat} {a2 a3 a4 : Int32} {s : Nat} (A : akS h0 G a2 s) (t : trA g h0 L) (hl : L.length < 8) (e3 : a3 = zs2 (gyK G s).toNat) (d0 : 0 ≤ a4.toInt) (d4 : a4.toInt ≤ 6) (H : ∀ (v : Int32) (g' : zH), v.toInt = mv (gyK G s) (itcS G s (wr G) 15) (s : Int) (gyS G s) → trA g' h0 (ml (gyK G s) L) → Q (some (.int v)) g') : zqm 6 [.ref 52, .ref 15, .int a2, .int a3, .int a4] g Q := by
  have A2 := A.2.1
  have A3 := A.2.2
  have w2 := A.1.2.1.2.1
  obtain ⟨⟨k1, k5⟩, -, s1, s5⟩ := A.1.2.1.2.2.2.2.1 s A.2.2
  have e3' := zs2_v (gyK G s).toNat (by omega)
  rw [← e3] at e3'
  unfold mv ml at H
  by_cases z3 : gyK G s ≤ 3
  · rw [if_pos z3, if_pos z3] at H
    exact qgm A t (by omega) z3 e3 d0 (by omega) H
  · rw [if_neg z3, if_neg z3] at H
    have e23 : a3.toInt = ((23 : Nat) : Int) := by
      have hk : gyK G s = 4 ∨ gyK G s = 5 := by omega
      rcases hk with k | k <;> (rw [k] at e3'; exact e3')
    have r1 := itcS_r (G := G) (s := s) (p := wr G) s1 s5 15
    have r2 := sv_r (k := gyK G s) (it := itcS G s (wr G) 15) (s := (s : Int)) (S := gyS G s) r1.1 (by omega) (by omega) (by omega) s1 s5
    refine s_6 a2 a3 a4 ⟨fun d => by exfalso; omega, fun _ => ?_⟩
    refine q_20a A t (zri_int ⟨fun _ => ?_, fun z => absurd (by decide) z⟩)
    refine q_7t a3 23 e23 t (by omega) (fun g' t' => ?_)
    have l1 := @ln1 L 23
    have l2 := @ln1 (L ++ [23]) 20
    have e4 := ai (x := a4) (k := 1) (by omega) (by omega) (by omega) (by omega)
    refine ⟨fun k => ?_, fun k => ?_, fun k => ?_, fun k => ?_, fun k => ?_, fun k => ?_, fun k => ?_, fun k => ?_, fun k => ?_, fun k => ?_, fun k => ?_, fun k => ?_, fun k => ?_, fun k => ?_, fun k => ?_, fun k => ?_⟩
    all_goals try (exfalso; omega)
    refine qg20 A t' (by omega) (by decide) (by omega) (fun g2 t2 => ?_)
    refine zri_int ?_
    refine q_8a A t2 (zri_int ?_)
    refine qgs A t2 (by omega) rfl (by omega) (by omega) (fun v3 g3 ev3 t3 => ?_)
    exact zri_int (H _ g3 (wk_sub A2 ev3 (by omega) (by omega)) t3)

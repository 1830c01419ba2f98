/-! asked of one: the reference's bodies; what is left of them -/
def trB (g h0 : zH) (L : List Nat) : Prop := (∀ q : Nat, q ≠ 58 → q ≠ 73 → g.1 q = h0.1 q) ∧ (∀ j : Nat, j ≠ 25 → g.1 58 j = h0.1 58 j) ∧ (g.1 58 25).toInt = (L.length : Int) ∧ ∀ i : Nat, i < L.length → (g.1 73 i).toInt = ((L.getD i 0 : Nat) : Int)
def bS (h : zH) (a1 : Int32) (s : Nat) : Prop := wfG (nowG h) ∧ h.1 58 13 = mkm (smB (gyD (nowG h))) 15 ∧ (∀ s : Nat, (s : Int) < nowG h 57 → h.1 66 s = mkm (flB (gyD (nowG h)) (gyE (nowG h) s)) 15) ∧ a1.toInt = (s : Int) ∧ (s : Int) < nowG h 57
theorem trB_n {g h0 : zH} {L : List Nat} (t : trB g h0 L) : nowG g = nowG h0 := funext fun k => by unfold nowG; rw [t.1 64 (by decide) (by decide)]
theorem bS_t {g h0 : zH} {a1 : Int32} {s : Nat} {L : List Nat} (B : bS h0 a1 s) (t : trB g h0 L) : bS g a1 s := by
  obtain ⟨b1, b2, b3, b4, b5⟩ := B
  unfold bS
  rw [trB_n t, t.2.1 13 (by decide), t.1 66 (by decide) (by decide)]
  exact ⟨b1, b2, b3, b4, b5⟩
theorem q_205t {h0 g : zH} {Q : Option Value → zH → Prop} {L : List Nat} (a1 : Int32) (b : Nat) (e : a1.toInt = (b : Int)) (t : trB g h0 L) (hl : L.length < 16) (H : ∀ g' : zH, trB g' h0 (L ++ [b]) → Q none g') : zqm 205 [.ref 58, .int a1] g Q := by
  obtain ⟨t1, t0, t2, t3⟩ := t
  refine s_205 a1 ⟨fun d => by exfalso; omega, fun _ _ _ => H _ ⟨fun q q1 q2 => ?_, fun j hj => ?_, ?_, fun i hi => ?_⟩⟩
  · rw [zs_q q1, zs_q q2]
    exact t1 q q1 q2
  · rw [wk_ne (Or.inr hj), zs_q (by decide)]
    exact t0 j hj
  · rw [wk_at, ai (by omega) (by omega) (by omega) (by omega), ln1, t2]
    omega
  · rw [ln1] at hi
    rw [zs_q (by decide)]
    by_cases z : i = L.length
    · subst z
      rw [show (g.1 58 25).toInt.toNat = L.length by omega, wk_at, e, gd_r]
    · rw [wk_ne (Or.inr (by omega)), gd_l (by omega)]
      exact t3 i (by omega)
theorem q_206t {h0 g : zH} {Q : Option Value → zH → Prop} {L : List Nat} {a1 : Int32} {s : Nat} (B : bS h0 a1 s) (t : trB g h0 L) (hl : L.length < 16) (H : ∀ (v : Int32) (g' : zH), v.toInt = itcS (nowG h0) s (wr (nowG h0)) 15 → trB g' h0 (L ++ [10]) → Q (some (.int v)) g') : zqm 206 [.ref 58, .int a1] g Q := by
  refine s_206 a1 ?_
  refine q_205t _ 10 (by decide) t hl (fun g' t' => ?_)
  obtain ⟨b1, b2, b3, b4, b5⟩ := bS_t B t'
  refine q_165 a1 s b4 b1 b5 (b3 s b5) b2 (fun v ev => ?_)
  rw [trB_n t'] at ev
  exact zri_int (H v g' ev t')
theorem q_207t {h0 g : zH} {Q : Option Value → zH → Prop} {L : List Nat} {a1 : Int32} (t : trB g h0 L) (hl : L.length < 16) (H : ∀ g' : zH, trB g' h0 (L ++ [20]) → Q (some (.int a1)) g') : zqm 207 [.ref 58, .int a1] g Q := by
  refine s_207 a1 ?_
  exact q_205t _ 20 (by decide) t hl (fun g' t' => H g' t')
theorem bS_r {h : zH} {a1 : Int32} {s : Nat} (B : bS h a1 s) : s < 4 ∧ (1 ≤ gyK (nowG h) s ∧ gyK (nowG h) s ≤ 5) ∧ 1 ≤ gyS (nowG h) s ∧ gyS (nowG h) s ≤ 5 := by
  obtain ⟨b1, b2, b3, b4, b5⟩ := B
  have w2 := b1.2.1
  obtain ⟨k, -, s15⟩ := b1.2.2.2.2.1 s b5
  exact ⟨by omega, k, s15.1, s15.2⟩
theorem q_158t {h0 g : zH} {Q : Option Value → zH → Prop} {L : List Nat} {a1 : Int32} {s : Nat} (B : bS h0 a1 s) (t : trB g h0 L) (H : ∀ v : Int32, v.toInt = gyK (nowG h0) s → Q (some (.int v)) g) : zqm 158 [.ref 58, .int a1] g Q := by
  have B' := bS_t B t
  have r := bS_r B
  refine q_158 a1 s B.2.2.2.1 (by omega) (H _ ?_)
  rw [t.1 64 (by decide) (by decide)]
  rfl
theorem q_208t {h0 g : zH} {Q : Option Value → zH → Prop} {L : List Nat} {a1 : Int32} {s : Nat} (B : bS h0 a1 s) (t : trB g h0 L) (hl : L.length < 15) (H : ∀ (v : Int32) (g' : zH), v.toInt = (s : Int) + gyS (nowG h0) s → trB g' h0 (L ++ [21] ++ [20]) → Q (some (.int v)) g') : zqm 208 [.ref 58, .int a1] g Q := by
  have r := bS_r B
  have l1 := @ln1 L 21
  refine s_208 a1 ?_
  refine q_205t _ 21 (by decide) t (by omega) (fun g' t' => ?_)
  refine q_207t t' (by omega) (fun g2 t2 => ?_)
  refine zri_int ?_
  refine q_160 a1 s B.2.2.2.1 (by omega) ?_
  refine zri_int (H _ g2 ?_ t2)
  rw [t2.1 64 (by decide) (by decide)]
  exact wk_add B.2.2.2.1 (show (h0.1 64 (45 + 3 * s + 2)).toInt = gyS (nowG h0) s from rfl) (by omega) (by omega)
theorem q_209t {h0 g : zH} {Q : Option Value → zH → Prop} {L : List Nat} {a1 : Int32} {s : Nat} (B : bS h0 a1 s) (t : trB g h0 L) (hl : L.length < 14) (H : ∀ (v : Int32) (g' : zH), v.toInt = mkv (gyK (nowG h0) s) (s : Int) (gyS (nowG h0) s) → trB g' h0 (mkl (gyK (nowG h0) s) L) → Q (some (.int v)) g') : zqm 209 [.ref 58, .int a1] g Q := by
  have r := bS_r B
  have l2 := @ln1 L 22
  have l4 := @ln1 L 24
  unfold mkv mkl at H
  refine s_209 a1 ?_
  refine q_158t B t (fun v ev => ?_)
  refine zri_int ?_
  rw [ev]
  refine ⟨fun z => ?_, fun z => ?_⟩
  · rw [if_neg z, if_neg z] at H
    refine q_158t B t (fun v3 ev3 => ?_)
    refine zri_int ?_
    rw [ev3]
    refine ⟨fun y => ?_, fun y => ?_⟩
    · rw [if_neg y, if_neg y] at H
      refine q_208t B t (by omega) (fun v5 g5 ev5 t5 => ?_)
      exact zri_int (H v5 g5 ev5 t5)
    · have y := Decidable.not_not.mp y
      rw [if_pos y, if_pos y] at H
      refine q_205t _ 22 (by decide) t (by omega) (fun g' t' => ?_)
      refine q_208t B t' (by omega) (fun v5 g5 ev5 t5 => ?_)
      exact zri_int (H _ g5 (wk_sub ev5 kc_1000 (by omega) (by omega)) t5)
  · have z := Decidable.not_not.mp z
    rw [if_pos z, if_pos z] at H
    refine q_205t _ 24 (by decide) t (by omega) (fun g' t' => ?_)
    refine q_208t B t' (by omega) (fun v5 g5 ev5 t5 => ?_)
    exact zri_int (H _ g5 (wk_mul kc_2 ev5 (by omega) (by omega)) t5)
theorem bS_i {h : zH} {a1 : Int32} {s : Nat} (B : bS h a1 s) : 0 ≤ itcS (nowG h) s (wr (nowG h)) 15 ∧ itcS (nowG h) s (wr (nowG h)) 15 ≤ 150 := by
  have r := bS_r B
  exact itcS_r r.2.2.1 r.2.2.2 15
theorem q_210t {h0 g : zH} {Q : Option Value → zH → Prop} {L : List Nat} {a1 : Int32} {s : Nat} (B : bS h0 a1 s) (t : trB g h0 L) (hl : L.length < 10) (k3 : gyK (nowG h0) s ≤ 3) (H : ∀ (v : Int32) (g' : zH), v.toInt = sv (gyK (nowG h0) s) (itcS (nowG h0) s (wr (nowG h0)) 15) (s : Int) (gyS (nowG h0) s) → trB g' h0 (sl (gyK (nowG h0) s) L) → Q (some (.int v)) g') : zqm 210 [.ref 58, .int a1] g Q := by
  have r := bS_r B
  have ri := bS_i B
  have rm := mkv_r (k := gyK (nowG h0) s) (s := (s : Int)) (S := gyS (nowG h0) s) (by omega) (by omega) r.2.2.1 r.2.2.2
  have l1 := @ln1 L 11
  have l2 := @ln1 (L ++ [11]) 10
  have l3 := @ln1 L 12
  have l4 := @ln1 (L ++ [12]) 11
  have l5 := @ln1 (L ++ [12] ++ [11]) 10
  unfold sv sl at H
  refine s_210 a1 ?_
  refine q_158t B t (fun v ev => ?_)
  refine zri_int ?_
  rw [ev]
  refine ⟨fun z => ⟨fun _ => ?_, fun y => absurd rfl y⟩, fun z => ⟨fun y => absurd y (by decide), fun _ => ?_⟩⟩
  · rw [if_neg z, if_neg z, if_pos k3, if_pos k3] at H
    refine q_205t _ 11 (by decide) t (by omega) (fun g1 t1 => ?_)
    refine q_206t B t1 (by omega) (fun v2 g2 e2 t2 => ?_)
    refine zri_int ?_
    refine q_209t B t2 (by omega) (fun v3 g3 e3 t3 => ?_)
    exact zri_int ⟨fun _ => H _ g3 (wk_add e2 e3 (by omega) (by omega)) t3, fun y => absurd rfl y⟩
  · have z := Decidable.not_not.mp z
    have rz : mkv (gyK (nowG h0) s) (s : Int) (gyS (nowG h0) s) = 2 * ((s : Int) + gyS (nowG h0) s) := if_pos z
    rw [if_pos z, if_pos z] at H
    refine q_205t _ 12 (by decide) t (by omega) (fun g0 t0 => ?_)
    refine q_205t _ 11 (by decide) t0 (by omega) (fun g1 t1 => ?_)
    refine q_206t B t1 (by omega) (fun v2 g2 e2 t2 => ?_)
    refine zri_int ?_
    refine q_209t B t2 (by omega) (fun v3 g3 e3 t3 => ?_)
    refine zri_int ⟨fun y => absurd y (by decide), fun _ => H _ g3 ?_ t3⟩
    have es := wk_add e2 e3 (by omega) (by omega)
    rw [x_nI (x := v2 + v3) (k := (v2 + v3).toInt.toNat) (by omega) (by omega), ngk _ (by omega), ← es]
    omega
theorem q_211t {h0 g : zH} {Q : Option Value → zH → Prop} {L : List Nat} {a1 : Int32} {s : Nat} (B : bS h0 a1 s) (t : trB g h0 L) (hl : L.length < 10) (k3 : ¬ gyK (nowG h0) s ≤ 3) (H : ∀ (v : Int32) (g' : zH), v.toInt = sv (gyK (nowG h0) s) (itcS (nowG h0) s (wr (nowG h0)) 15) (s : Int) (gyS (nowG h0) s) → trB g' h0 (sl (gyK (nowG h0) s) L) → Q (some (.int v)) g') : zqm 211 [.ref 58, .int a1] g Q := by
  have r := bS_r B
  have ri := bS_i B
  have l1 := @ln1 L 13
  have l3 := @ln1 L 14
  have l4 := @ln1 (L ++ [14]) 13
  have kc : (Int32.ofInt 100).toInt = 100 := by decide
  have k2 : ¬ gyK (nowG h0) s = 2 := by omega
  unfold sv sl at H
  rw [if_neg k2, if_neg k2, if_neg k3, if_neg k3] at H
  refine s_211 a1 ?_
  refine q_158t B t (fun v ev => ?_)
  refine zri_int ?_
  rw [ev]
  refine ⟨fun z => ⟨fun _ => ?_, fun y => absurd rfl y⟩, fun z => ⟨fun y => absurd y (by decide), fun _ => ?_⟩⟩
  · have k4 : gyK (nowG h0) s = 4 := by omega
    rw [if_pos k4, if_pos k4] at H
    refine q_205t _ 13 (by decide) t (by omega) (fun g1 t1 => ?_)
    refine q_206t B t1 (by omega) (fun v2 g2 e2 t2 => ?_)
    exact zri_int ⟨fun _ => H _ g2 (wk_sub e2 kc (by omega) (by omega)) t2, fun y => absurd rfl y⟩
  · have k4 : ¬ gyK (nowG h0) s = 4 := by omega
    rw [if_neg k4, if_neg k4] at H
    refine q_205t _ 14 (by decide) t (by omega) (fun g0 t0 => ?_)
    refine q_205t _ 13 (by decide) t0 (by omega) (fun g1 t1 => ?_)
    refine q_206t B t1 (by omega) (fun v2 g2 e2 t2 => ?_)
    refine zri_int ⟨fun y => absurd y (by decide), fun _ => H _ g2 ?_ t2⟩
    exact wk_mul kc_2 (wk_sub e2 kc (by omega) (by omega)) (by omega) (by omega)
theorem q_212t {h0 g : zH} {Q : Option Value → zH → Prop} {L : List Nat} {a1 : Int32} {s : Nat} (B : bS h0 a1 s) (t : trB g h0 L) (hl : L.length < 8) (k3 : ¬ gyK (nowG h0) s ≤ 3) (H : ∀ (v : Int32) (g' : zH), v.toInt = mv (gyK (nowG h0) s) (itcS (nowG h0) s (wr (nowG h0)) 15) (s : Int) (gyS (nowG h0) s) → trB g' h0 (ml (gyK (nowG h0) s) L) → Q (some (.int v)) g') : zqm 212 [.ref 58, .int a1] g Q := by
  have r := bS_r B
  have ri := bS_i B
  have rs := sv_r (k := gyK (nowG h0) s) (it := itcS (nowG h0) s (wr (nowG h0)) 15) (s := (s : Int)) (S := gyS (nowG h0) s) ri.1 ri.2 (by omega) (by omega) r.2.2.1 r.2.2.2
  have l1 := @ln1 L 23
  have l2 := @ln1 (L ++ [23]) 20
  unfold mv ml at H
  rw [if_neg k3, if_neg k3] at H
  refine s_212 a1 ?_
  refine q_205t _ 23 (by decide) t (by omega) (fun g1 t1 => ?_)
  refine q_207t t1 (by omega) (fun g2 t2 => ?_)
  refine zri_int ?_
  refine q_211t B t2 (by omega) k3 (fun v3 g3 e3 t3 => ?_)
  exact zri_int (H _ g3 (wk_sub B.2.2.2.1 e3 (by omega) (by omega)) t3)
def JX (h : zH) : Prop := ∃ L : List Nat, L.length ≤ 16 ∧ (h.1 52 1).toInt = (L.length : Int) ∧ (h.1 58 25).toInt = (L.length : Int) ∧ ∀ i : Nat, i < L.length → (h.1 53 i).toInt = ((L.getD i 0 : Nat) : Int) ∧ (h.1 73 i).toInt = ((L.getD i 0 : Nat) : Int)
abbrev JCX : zH → Prop := fun h => JC h ∧ JX h
theorem sl_l {k : Int} {L : List Nat} : (sl k L).length ≤ L.length + 6 := by
  have a := @mkl_l k (L ++ [12] ++ [11] ++ [10])
  have b := @mkl_l k (L ++ [11] ++ [10])
  simp only [List.length_append, List.length_cons, List.length_nil] at a b
  unfold sl
  repeat' split
  all_goals try simp only [List.length_append, List.length_cons, List.length_nil]
  all_goals omega
theorem ml_l {k : Int} {L : List Nat} : (ml k L).length ≤ L.length + 8 := by
  have a := @mkl_l k L
  have b := @sl_l k (L ++ [23] ++ [20])
  simp only [List.length_append, List.length_cons, List.length_nil] at b
  unfold ml
  split <;> omega
/-- both asked alike: they answer alike, and leave the same -/
theorem ask_ok (h : zH) (a b : Int32) (hJ : JC h) : zqm 110 [.ref 0, .int a, .int b] h (fun rv h1 => zqm 213 [.ref 58, .int a, .int b] h1 (fun rv' h2 => rv' = rv ∧ JC h2 ∧ (h2 = h ∨ JX h2))) := by
  obtain ⟨m6, m0, m4⟩ := JC_men hJ
  refine s_110 a b ?_
  refine q_20 a (by omega) ?_
  refine zri_int ⟨fun z => ?_, fun z => ?_⟩
  · have z := zb0.mp z
    refine s_213 a b ?_
    refine q_152 a m0 m4 ?_
    refine zri_int ⟨fun _ => ⟨rfl, hJ, Or.inl rfl⟩, fun y => absurd (zb1.mp y) (by omega)⟩
  · have z := zb1.mp z
    obtain ⟨s, ea⟩ : ∃ s : Nat, a.toInt = (s : Int) := ⟨a.toInt.toNat, by omega⟩
    have sG : (s : Int) < nowG h 57 := by omega
    obtain ⟨C, cS, cF⟩ := JC_1 hJ (JC_c hJ sG)
    have A : akS h (nowG h) a s := ⟨C, ea, sG⟩
    have REF : ∀ (h1 : zH) (L : List Nat) (P : Option Value → zH → Prop), trA h1 h L → (¬ b.toInt = 0 → b.toInt = 1 → ∀ (v : Int32) (g' : zH), v.toInt = mv (gyK (nowG h) s) (itcS (nowG h) s (wr (nowG h)) 15) (s : Int) (gyS (nowG h) s) → trB g' h1 (ml (gyK (nowG h) s) []) → P (some (.int v)) g') → (b.toInt = 0 → ∀ (v : Int32) (g' : zH), v.toInt = sv (gyK (nowG h) s) (itcS (nowG h) s (wr (nowG h)) 15) (s : Int) (gyS (nowG h) s) → trB g' h1 (sl (gyK (nowG h) s) []) → P (some (.int v)) g') → (0 ≤ b.toInt ∧ b.toInt ≤ 1) → zqm 213 [.ref 58, .int a, .int b] h1 P := fun h1 L P t k1 k0 hb => by
      have eN : nowG h1 = nowG h := funext fun k => by unfold nowG; rw [t.1 64 (by decide) (by decide)]
      have B : bS h1 a s := by
        unfold bS
        rw [eN, t.1 58 (by decide) (by decide), t.1 66 (by decide) (by decide)]
        exact ⟨C.2.1, cS, cF, ea, sG⟩
      rw [← eN] at k1 k0
      refine s_213 a b ?_
      refine q_152 a (by rw [eN]; exact m0) (by rw [eN]; exact m4) ?_
      refine zri_int ⟨fun y => absurd (by rw [eN]; omega) (zb0.mp y), fun _ => ?_⟩
      refine q_121 _ _ _ ?_
      refine zri_int ?_
      rw [kc_0, kc_1]
      refine ⟨fun _ => ?_, fun y => absurd hb (zb2.mp y)⟩
      have t0 : trB (zSet h1 58 25 (Int32.ofInt 0)) h1 [] := ⟨fun q q1 _ => zs_q q1, fun j hj => wk_ne (Or.inr hj), by rw [wk_at]; exact kc_0, fun i hi => by cases hi⟩
      have r := bS_r B
      refine q_158t B t0 (fun v ev => ?_)
      refine zri_int ?_
      rw [ev]
      refine ⟨fun y => ⟨fun x => ⟨fun _ => ?_, fun u => absurd rfl u⟩, fun x => ⟨fun _ => ?_, fun u => absurd rfl u⟩⟩, fun y => ⟨fun x => ⟨fun u => absurd u (by decide), fun _ => ?_⟩, fun x => ⟨fun u => absurd u (by decide), fun _ => ?_⟩⟩⟩
      · refine q_209t B t0 (by decide) (fun v9 g9 e9 t9 => ?_)
        refine zri_int (k1 x (by omega) v9 g9 ?_ ?_)
        · rw [e9]
          exact (if_pos (show gyK (nowG h1) s ≤ 3 by omega)).symm
        · rw [show ml (gyK (nowG h1) s) [] = mkl (gyK (nowG h1) s) [] from if_pos (show gyK (nowG h1) s ≤ 3 by omega)]
          exact t9
      · refine q_210t B t0 (by decide) (by omega) (fun v9 g9 e9 t9 => ?_)
        exact zri_int (k0 (Decidable.not_not.mp x) v9 g9 e9 t9)
      · refine q_212t B t0 (by decide) (by omega) (fun v9 g9 e9 t9 => ?_)
        exact zri_int (k1 x (by omega) v9 g9 e9 t9)
      · refine q_211t B t0 (by decide) (by omega) (fun v9 g9 e9 t9 => ?_)
        exact zri_int (k0 (Decidable.not_not.mp x) v9 g9 e9 t9)
    have FIN : ∀ (h1 h2 : zH) (L : List Nat), L.length ≤ 16 → trA h1 h L → trB h2 h1 L → JC h2 ∧ (h2 = h ∨ JX h2) := fun h1 h2 L l16 tA tB => by
      refine ⟨JC_fr (fun q x y => ?_) ?_ ?_ ?_ hJ, Or.inr ⟨L, l16, ?_, tB.2.2.1, fun i hi => ⟨?_, tB.2.2.2 i hi⟩⟩⟩
      · rw [tB.1 q (by omega) (by omega), tA.1 q (by omega) (by omega)]
      · rw [tB.1 64 (by decide) (by decide), tA.1 64 (by decide) (by decide)]
      · rw [tB.1 66 (by decide) (by decide), tA.1 66 (by decide) (by decide)]
      · rw [tB.2.1 13 (by decide), tA.1 58 (by decide) (by decide)]
      · rw [tB.1 52 (by decide) (by decide)]
        exact tA.2.1
      · rw [tB.1 53 (by decide) (by decide)]
        exact tA.2.2 i hi
    refine q_120 b ?_
    refine zri_int ⟨fun y => ?_, fun y => ?_⟩
    · have y := zb1.mp y
      have t0 : trA (zSet h 52 1 (Int32.ofInt 0)) h [] := ⟨fun q q1 _ => zs_q q1, by rw [wk_at]; exact kc_0, fun i hi => by cases hi⟩
      have l1 := @ml_l (gyK (nowG h) s) []
      have l2 := @sl_l (gyK (nowG h) s) []
      simp only [List.length_nil] at l1 l2
      refine s_4 a b ⟨fun x => ?_, fun x => ?_⟩
      · refine q_9a A t0 (zri_int ?_)
        refine qgk A t0 (by decide) rfl (by decide) (by decide) (fun v g ev tg => ?_)
        refine zri_int ?_
        refine REF g _ _ tg (fun _ _ v' g' ev' tg' => ⟨vi (by rw [ev', ev]), FIN g g' _ (by omega) tg tg'⟩) (fun u => absurd u x) y
      · have x := Decidable.not_not.mp x
        refine q_8a A t0 (zri_int ?_)
        refine qgs A t0 (by decide) rfl (by decide) (by decide) (fun v g ev tg => ?_)
        refine zri_int ?_
        refine REF g _ _ tg (fun u => absurd x u) (fun _ v' g' ev' tg' => ⟨vi (by rw [ev', ev]), FIN g g' _ (by omega) tg tg'⟩) y
    · have y := zb2.mp y
      refine s_213 a b ?_
      refine q_152 a m0 m4 ?_
      refine zri_int ⟨fun x => absurd (by omega) (zb0.mp x), fun _ => ?_⟩
      refine q_121 _ _ _ ?_
      refine zri_int ?_
      rw [kc_0, kc_1]
      exact ⟨fun x => absurd (zb1.mp x) y, fun _ => ⟨rfl, hJ, Or.inl rfl⟩⟩
theorem pr_ask : pr2 110 213 2 JC := by
  intro as hl hv h ht hJ
  match as, hl, hv with
  | [v1, v2], hl, hv =>
    obtain ⟨a, rfl⟩ := hv v1 (by simp)
    obtain ⟨b, rfl⟩ := hv v2 (by simp)
    refine zqm_imp (ask_ok h a b hJ) (fun rv h1 k _ => zqm_imp k (fun rv' h2 k2 _ => ⟨k2.1, k2.2.1⟩))
theorem pr_askx : pr2 110 213 2 JCX := by
  intro as hl hv h ht hJ
  match as, hl, hv with
  | [v1, v2], hl, hv =>
    obtain ⟨a, rfl⟩ := hv v1 (by simp)
    obtain ⟨b, rfl⟩ := hv v2 (by simp)
    refine zqm_imp (ask_ok h a b hJ.1) (fun rv h1 k _ => zqm_imp k (fun rv' h2 k2 _ => ⟨k2.1, k2.2.1, k2.2.2.elim (fun e => by rw [e]; exact hJ.2) id⟩))
theorem pr_trace : pr2 111 214 1 JX := by
  intro as hl hv h ht hJ
  match as, hl, hv with
  | [v1], hl, hv =>
    obtain ⟨a, rfl⟩ := hv v1 (by simp)
    obtain ⟨L, l16, x1, x2, x3⟩ := id hJ
    have es : ((h.1 58 25) - (Int32.ofInt 1)).toInt = (L.length : Int) - 1 := wk_sub x2 kc_1 (by omega) (by omega)
    have REF : ∀ P : Option Value → zH → Prop, (¬ (0 ≤ a.toInt ∧ a.toInt < (L.length : Int)) → P (some (.int (-1000000 : Int32))) h) → ((0 ≤ a.toInt ∧ a.toInt < (L.length : Int)) → P (some (.int (h.1 73 a.toInt.toNat))) h) → zqm 214 [.ref 58, .int a] h P := fun P k0 k1 => by
      refine s_214 a ?_
      refine q_121 _ _ _ ?_
      rw [es, kc_0]
      refine zri_int ⟨fun z => k0 (fun y => zb0.mp z (by omega)), fun z _ _ => k1 ?_⟩
      have := zb1.mp z
      omega
    refine s_111 a ?_
    refine s_5 a ?_
    rw [x1]
    refine ⟨fun z => ?_, fun z => ⟨fun y => ?_, fun y => ⟨fun x => ?_, fun x _ _ => ?_⟩⟩⟩
    · exact zri_int (fun _ => REF _ (fun _ _ => ⟨rfl, hJ⟩) (fun k => by exfalso; omega))
    · exact zri_int (fun _ => REF _ (fun _ _ => ⟨rfl, hJ⟩) (fun k => by exfalso; omega))
    · exfalso
      omega
    · refine zri_int (fun _ => REF _ (fun k => absurd (by omega) k) (fun _ _ => ⟨vi ?_, hJ⟩))
      obtain ⟨y1, y2⟩ := x3 a.toInt.toNat (by omega)
      rw [y1, y2]

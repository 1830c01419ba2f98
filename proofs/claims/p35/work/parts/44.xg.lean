/-! a whole text, by the reference -/
def tq (h : zH) (T : Nat → Int32) (N : Int) : Prop := (∀ k : Nat, (k : Int) < N → h.1 62 k = T k) ∧ (h.1 58 5).toInt = N ∧ N ≤ 120 ∧ 0 ≤ (h.1 58 7).toInt ∧ (h.1 58 7).toInt ≤ N
def rgS (h h' : zH) (s : Int × Int) : Prop := (∀ q, q ≠ 58 → q ≠ 63 → h'.1 q = h.1 q) ∧ (∀ j, j ≠ 6 → j ≠ 7 → j ≠ 8 → h'.1 58 j = h.1 58 j) ∧ (h'.1 58 7).toInt = s.1 ∧ (s.2 = 0 → h'.1 58 6 = h.1 58 6) ∧ (¬ s.2 = 0 → (h'.1 58 6).toInt = s.2)
def rfS (h h' : zH) (s : Int × Int) : Prop := rgS h h' s ∧ h'.1 63 = h.1 63
theorem rgS_tq {h h' : zH} {s : Int × Int} {T : Nat → Int32} {N : Int} (r : rgS h h' s) (t : tq h T N) (h0 : 0 ≤ s.1) (h1 : s.1 ≤ N) : tq h' T N := by
  obtain ⟨r1, r2, r3, r4⟩ := r
  obtain ⟨t1, t2, t3, -, -⟩ := t
  refine ⟨fun k hk => ?_, ?_, t3, by omega, by omega⟩
  · rw [r1 62 (by decide) (by decide)]; exact t1 k hk
  · rw [r2 5 (by decide) (by decide) (by decide)]; exact t2
theorem rgS_tr {h h1 h2 : zH} {s1 s2 : Int × Int} (r : rgS h h1 s1) (e : s1.2 = 0) (r' : rgS h1 h2 s2) : rgS h h2 s2 := by
  obtain ⟨a1, a2, a3, a4, a5⟩ := r
  obtain ⟨b1, b2, b3, b4, b5⟩ := r'
  refine ⟨fun q c1 c2 => by rw [b1 q c1 c2, a1 q c1 c2], fun j c1 c2 c3 => by rw [b2 j c1 c2 c3, a2 j c1 c2 c3], b3, fun z => by rw [b4 z, a4 e], b5⟩
theorem rgS_63 {h h1 : zH} {s : Int × Int} {j : Nat} {v : Int32} (r : rgS h h1 s) : rgS h (zSet h1 63 j v) s := by
  obtain ⟨a1, a2, a3, a4, a5⟩ := r
  refine ⟨fun q c1 c2 => by rw [fr1 c2, a1 q c1 c2], fun j c1 c2 c3 => by rw [fr1 (by decide), a2 j c1 c2 c3], by rw [fr1 (by decide)]; exact a3, by rw [fr1 (by decide)]; exact a4, by rw [fr1 (by decide)]; exact a5⟩
theorem tq_63 {h : zH} {T : Nat → Int32} {N : Int} {j : Nat} {v : Int32} (t : tq h T N) : tq (zSet h 63 j v) T N := by
  unfold tq
  rw [fr1 (show (62 : Nat) ≠ 63 by decide), fr1 (show (58 : Nat) ≠ 63 by decide)]
  exact t
theorem rgS_rf {h : zH} : rgS h h ((h.1 58 7).toInt, 0) := ⟨fun _ _ _ => rfl, fun _ _ _ _ => rfl, rfl, fun _ => rfl, fun z => absurd rfl z⟩
theorem rfS_f {h : zH} {w : Int32} {f a : Int} (ew : w.toInt = f) (hf : ¬ f = 0) (ea : (h.1 58 7).toInt = a) : rfS h (zSet h 58 6 w) (a, f) := by
  refine ⟨⟨fun q c1 c2 => fr1 c1, fun j c1 c2 c3 => fr2 c1, by rw [fr2 (by decide)]; exact ea, fun z => absurd z hf, fun _ => by rw [fr3]; exact ew⟩, fr1 (by decide)⟩
theorem rfS_a {h : zH} {w : Int32} {a : Int} (ew : w.toInt = a) : rfS h (zSet h 58 7 w) (a, 0) := by
  refine ⟨⟨fun q c1 c2 => fr1 c1, fun j c1 c2 c3 => fr2 c2, by rw [fr3]; exact ew, fun _ => fr2 (by decide), fun z => absurd rfl z⟩, fr1 (by decide)⟩
theorem rfS_8 {h h' : zH} {w : Int32} {s : Int × Int} (r : rfS (zSet h 58 8 w) h' s) : rfS h h' s := by
  obtain ⟨⟨a1, a2, a3, a4, a5⟩, a6⟩ := r
  refine ⟨⟨fun q c1 c2 => by rw [a1 q c1 c2, fr1 c1], fun j c1 c2 c3 => by rw [a2 j c1 c2 c3, fr2 c3], a3, fun z => by rw [a4 z, fr2 (by decide)], a5⟩, by rw [a6, fr1 (by decide)]⟩
theorem tq_8 {h : zH} {T : Nat → Int32} {N : Int} {w : Int32} (t : tq h T N) : tq (zSet h 58 8 w) T N := by
  unfold tq
  rw [fr1 (show (62 : Nat) ≠ 58 by decide), fr2 (show (5 : Nat) ≠ 8 by decide), fr2 (show (7 : Nat) ≠ 8 by decide)]
  exact t
theorem q_136 {h : zH} {Q : Option Value → zH → Prop} {T : Nat → Int32} {N : Int} (t : tq h T N) (H : ∀ v : Int32, v.toInt = pk T N (h.1 58 7).toInt → Q (some (.int v)) h) : zqm 136 [.ref 58] h Q := by
  obtain ⟨t1, t2, t3, t4, t5⟩ := t
  refine s_136 ⟨fun c => H _ ?_, fun c b1 b2 => H _ ?_⟩
  · rw [pko (by omega)]; decide
  · rw [pki ⟨t4, by omega⟩, t1 _ (by omega)]
theorem q_137 {h : zH} {Q : Option Value → zH → Prop} {T : Nat → Int32} {N : Int} (a1 : Int32) (t : tq h T N) (a0 : 0 ≤ a1.toInt) (H : Q (some (.int (zbo (48 ≤ pk T N a1.toInt ∧ pk T N a1.toInt ≤ 57)))) h) : zqm 137 [.ref 58, .int a1] h Q := by
  obtain ⟨t1, t2, t3, t4, t5⟩ := t
  refine s_137 a1 ⟨fun c => ?_, fun c b1 b2 => ?_⟩
  · rw [pko (by omega), zbF (by omega)] at H
    exact H
  · rw [pki ⟨a0, by omega⟩] at H
    rw [t1 _ (by omega)]
    refine q_121 _ _ _ ?_
    refine zri_int ?_
    rw [kc_48, kc_57]
    refine ⟨fun d => ?_, fun d => ?_⟩
    · rw [zbF (zb0.mp d)] at H; exact H
    · rw [zbT (zb1.mp d)] at H; exact H
theorem q_138 {h : zH} {Q : Option Value → zH → Prop} (a1 : Int32) (H : Q (some (.int (Int32.ofInt 0))) (zSet h 58 6 a1)) : zqm 138 [.ref 58, .int a1] h Q := s_138 a1 H
theorem q_139 {h : zH} {Q : Option Value → zH → Prop} {T : Nat → Int32} {N : Int} (a1 : Int32) (t : tq h T N) (l0 : 0 ≤ a1.toInt) (H : ∀ h', tq h' T N → rfS h h' (sL T N a1.toInt a1.toInt ((h.1 58 7).toInt, 0)).1 → Q (some (.int (zbo ((sL T N a1.toInt a1.toInt ((h.1 58 7).toInt, 0)).1.2 = 0)))) h') : zqm 139 [.ref 58, .int a1] h Q := by
  obtain ⟨t1, t2, t3, t4, t5⟩ := id t
  have hin := sL_in (T := T) (hi := a1.toInt) (s := ((h.1 58 7).toInt, 0)) l0 t4 t5
  refine s_139 a1 ?_
  refine q_136 t (fun v ev => ?_)
  refine zri_int ?_
  refine ⟨fun c => ?_, fun c => ?_⟩
  · have e : sL T N a1.toInt a1.toInt ((h.1 58 7).toInt, 0) = (((h.1 58 7).toInt + 1, 0), pk T N (h.1 58 7).toInt - a1.toInt) := sL_ok rfl (by show a1.toInt ≤ pk T N (h.1 58 7).toInt ∧ pk T N (h.1 58 7).toInt ≤ a1.toInt; omega)
    rw [e] at H hin
    have r : rfS h (zSet h 58 7 (h.1 58 7 + Int32.ofInt 1)) ((h.1 58 7).toInt + 1, 0) := rfS_a (ai (by omega) (by omega) (by omega) (by omega))
    have := H _ (rgS_tq r.1 t hin.1 hin.2) r
    rw [zbT rfl] at this
    exact this
  · have e : sL T N a1.toInt a1.toInt ((h.1 58 7).toInt, 0) = (((h.1 58 7).toInt, 1), 0) := sL_no rfl (by show ¬ (a1.toInt ≤ pk T N (h.1 58 7).toInt ∧ pk T N (h.1 58 7).toInt ≤ a1.toInt); omega)
    rw [e] at H hin
    refine q_138 _ ?_
    refine zri_int ?_
    have r : rfS h (zSet h 58 6 (Int32.ofInt 1)) ((h.1 58 7).toInt, 1) := rfS_f kc_1 (by decide) rfl
    have := H _ (rgS_tq r.1 t hin.1 hin.2) r
    rw [zbF (by show ¬ (1 : Int) = 0; decide)] at this
    exact this
/-- a number, by the reference -/
theorem q_140 {h : zH} {Q : Option Value → zH → Prop} {T : Nat → Int32} {N : Int} (a1 a2 : Int32) (t : tq h T N) (H : ∀ h', tq h' T N → rfS h h' (sN T N a1.toInt a2.toInt ((h.1 58 7).toInt, 0)).1 → ((sN T N a1.toInt a2.toInt ((h.1 58 7).toInt, 0)).1.2 = 0 → (h'.1 58 8).toInt = (sN T N a1.toInt a2.toInt ((h.1 58 7).toInt, 0)).2) → Q (some (.int (zbo ((sN T N a1.toInt a2.toInt ((h.1 58 7).toInt, 0)).1.2 = 0)))) h') : zqm 140 [.ref 58, .int a1, .int a2] h Q := by
  obtain ⟨t1, t2, t3, t4, t5⟩ := id t
  have y1 := ai (x := h.1 58 7) (k := 1) (by omega) (by omega) (by omega) (by omega)
  have y2 := ai (x := h.1 58 7) (k := 2) (by omega) (by omega) (by omega) (by omega)
  have hin := sN_in (T := T) (N := N) (lo := a1.toInt) (hi := a2.toInt) (s := ((h.1 58 7).toInt, 0)) t4 t5
  -- a wrong one
  have F1 : nBad T N (h.1 58 7).toInt → Q (some (.int (Int32.ofInt 0))) (zSet h 58 6 (Int32.ofInt 1)) := fun d => by
    have e : sN T N a1.toInt a2.toInt ((h.1 58 7).toInt, 0) = (((h.1 58 7).toInt, 1), 0) := sN_f1 rfl d
    rw [e] at H hin
    have r : rfS h (zSet h 58 6 (Int32.ofInt 1)) ((h.1 58 7).toInt, 1) := rfS_f kc_1 (by decide) rfl
    have := H _ (rgS_tq r.1 t hin.1 hin.2) r (fun z => absurd z (by show ¬ (1 : Int) = 0; decide))
    rw [zbF (by show ¬ (1 : Int) = 0; decide)] at this
    exact this
  -- its value is known
  have G : ∀ (g : zH) (w l : Int32), rfS h g ((h.1 58 7).toInt, 0) → tq g T N → g.1 58 8 = w → g.1 58 7 = h.1 58 7 → ¬ nBad T N (h.1 58 7).toInt → w.toInt = nv T N (h.1 58 7).toInt → l.toInt = nl T N (h.1 58 7).toInt → zqm 121 [.int w, .int a1, .int a2] g (fun rv h9 => zri rv (fun v9 => ((¬ v9.toInt = 0 → Q (some (.int (Int32.ofInt 1))) (zSet h9 58 7 ((h9.1 58 7) + l))) ∧ (¬ (¬ v9.toInt = 0) → zqm 138 [.ref 58, .int (Int32.ofInt 2)] h9 (fun rv h11 => zri rv (fun v11 => Q (some (.int v11)) h11)))))) := fun g w l rg tg ew eg d dv dl => by
    refine q_121 w a1 a2 ?_
    refine zri_int ?_
    refine ⟨fun c => ?_, fun c => ?_⟩
    · have c := zb1.mp c
      have e : sN T N a1.toInt a2.toInt ((h.1 58 7).toInt, 0) = (((h.1 58 7).toInt + nl T N (h.1 58 7).toInt, 0), nv T N (h.1 58 7).toInt) := sN_ok rfl d (by show ¬ (nv T N (h.1 58 7).toInt < a1.toInt ∨ a2.toInt < nv T N (h.1 58 7).toInt); omega)
      rw [e] at H hin
      have el : (g.1 58 7 + l).toInt = (h.1 58 7).toInt + nl T N (h.1 58 7).toInt := by
        rw [eg, ← dl]
        have : (h.1 58 7).toInt + nl T N (h.1 58 7).toInt ≤ N := hin.2
        have : 0 ≤ (h.1 58 7).toInt + nl T N (h.1 58 7).toInt := hin.1
        exact wk_add rfl rfl (by omega) (by omega)
      have r0 := rfS_a (h := g) el
      have r : rfS h (zSet g 58 7 (g.1 58 7 + l)) ((h.1 58 7).toInt + nl T N (h.1 58 7).toInt, 0) := ⟨rgS_tr rg.1 rfl r0.1, by rw [r0.2, rg.2]⟩
      have := H _ (rgS_tq r.1 t hin.1 hin.2) r (fun _ => by rw [fr2 (by decide), ew]; exact dv)
      rw [zbT rfl] at this
      exact this
    · have c := zb2.mp c
      have e : sN T N a1.toInt a2.toInt ((h.1 58 7).toInt, 0) = (((h.1 58 7).toInt, 2), 0) := sN_f2 rfl d (by show nv T N (h.1 58 7).toInt < a1.toInt ∨ a2.toInt < nv T N (h.1 58 7).toInt; omega)
      rw [e] at H hin
      refine q_138 _ ?_
      refine zri_int ?_
      have r0 : rfS g (zSet g 58 6 (Int32.ofInt 2)) ((h.1 58 7).toInt, 2) := rfS_f kc_2 (by decide) (by rw [eg])
      have r : rfS h (zSet g 58 6 (Int32.ofInt 2)) ((h.1 58 7).toInt, 2) := ⟨rgS_tr rg.1 rfl r0.1, by rw [r0.2, rg.2]⟩
      have := H _ (rgS_tq r.1 t hin.1 hin.2) r (fun z => absurd z (by show ¬ (2 : Int) = 0; decide))
      rw [zbF (by show ¬ (2 : Int) = 0; decide)] at this
      exact this
  have r8 : ∀ w : Int32, rfS h (zSet h 58 8 w) ((h.1 58 7).toInt, 0) := fun w => rfS_8 ⟨⟨fun _ _ _ => rfl, fun _ _ _ _ => rfl, by rw [fr2 (by decide)], fun _ => rfl, fun z => absurd rfl z⟩, rfl⟩
  refine s_140 a1 a2 ?_
  refine q_137 _ t t4 ?_
  refine zri_int ?_
  refine ⟨fun c => ?_, fun c => ?_⟩
  · have c := zb0.mp c
    refine q_138 _ ?_
    exact zri_int (F1 (Or.inl c))
  have c := zb1.mp c
  have ci := fg_in c
  have e0 : (h.1 62 (h.1 58 7).toInt.toNat - Int32.ofInt 48).toInt = pk T N (h.1 58 7).toInt - 48 := by
    rw [t1 _ (by omega), pki ci]
    rw [pki ci] at c
    exact wk_sub rfl kc_48 (by omega) (by omega)
  refine q_137 _ t (by omega) ?_
  refine zri_int ?_
  rw [y1]
  refine ⟨fun d => ?_, fun d => ?_⟩
  · have d := zb0.mp d
    have hl := nl_1 d
    intro b1 b2
    have t8 := tq_8 (w := h.1 62 (h.1 58 7).toInt.toNat - Int32.ofInt 48) t
    refine q_137 _ t8 (by omega) ?_
    refine zri_int ?_
    rw [y1]
    refine ⟨fun g => ?_, fun g => absurd (zb1.mp g) d⟩
    rw [fr3]
    exact G _ _ _ (r8 _) t8 fr3 (fr2 (by decide)) (fun z => z.elim (fun z => z c) (fun z => d z.1)) (by rw [e0, hl.2]) (by rw [hl.1]; exact kc_1)
  · have d := zb1.mp d
    have di := fg_in d
    have hl := nl_2 d
    refine q_137 _ t (by omega) ?_
    refine zri_int ?_
    rw [y2]
    refine ⟨fun g => ?_, fun g => ?_⟩
    · have g := zb0.mp g
      intro b1 b2
      have t8 := tq_8 (w := h.1 62 (h.1 58 7).toInt.toNat - Int32.ofInt 48) t
      refine q_137 _ t8 (by omega) ?_
      refine zri_int ?_
      rw [y1]
      refine ⟨fun l => absurd d (zb0.mp l), fun l => ?_⟩
      rw [fr2 (show (7 : Nat) ≠ 8 by decide), fr3, fr1 (show (62 : Nat) ≠ 58 by decide)]
      intro b3 b4
      have ev : (Int32.ofInt 10 * (h.1 62 (h.1 58 7).toInt.toNat - Int32.ofInt 48) + h.1 62 (h.1 58 7 + Int32.ofInt 1).toInt.toNat - Int32.ofInt 48).toInt = nv T N (h.1 58 7).toInt := by
        have c' : 48 ≤ pk T N (h.1 58 7).toInt ∧ pk T N (h.1 58 7).toInt ≤ 57 := c
        have d' : 48 ≤ pk T N ((h.1 58 7).toInt + 1) ∧ pk T N ((h.1 58 7).toInt + 1) ≤ 57 := d
        have m := wk_mul (x := Int32.ofInt 10) (i := 10) (by decide) e0 (by omega) (by omega)
        have e1 : (h.1 62 (h.1 58 7 + Int32.ofInt 1).toInt.toNat).toInt = pk T N ((h.1 58 7).toInt + 1) := by rw [y1, pki di, t1 _ (by omega)]
        have m2 := wk_add m e1 (by omega) (by omega)
        rw [wk_sub m2 kc_48 (by omega) (by omega), hl.2]
        omega
      have r9 := r8 (Int32.ofInt 10 * (h.1 62 (h.1 58 7).toInt.toNat - Int32.ofInt 48) + h.1 62 (h.1 58 7 + Int32.ofInt 1).toInt.toNat - Int32.ofInt 48)
      refine G _ _ _ ?_ (tq_8 t8) fr3 (by rw [fr2 (by decide), fr2 (by decide)]) (fun z => z.elim (fun z => z c) (fun z => g z.2)) ev (by rw [hl.1]; exact kc_2)
      refine ⟨⟨fun q c1 c2 => by rw [fr1 c1, fr1 c1], fun j c1 c2 c3 => by rw [fr2 c3, fr2 c3], by rw [fr2 (by decide), fr2 (by decide)], fun _ => by rw [fr2 (by decide), fr2 (by decide)], fun z => absurd rfl z⟩, by rw [fr1 (by decide), fr1 (by decide)]⟩
    · have g := zb1.mp g
      refine q_138 _ ?_
      exact zri_int (F1 (Or.inr ⟨d, g⟩))

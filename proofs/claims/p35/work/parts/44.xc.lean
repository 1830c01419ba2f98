/-! the tape: how a text is read, as numbers (a place, a fault) -/
def pk (T : Nat → Int32) (N a : Int) : Int := if 0 ≤ a ∧ a < N then (T a.toNat).toInt else -1
theorem pki {T : Nat → Int32} {N a : Int} (h : 0 ≤ a ∧ a < N) : pk T N a = (T a.toNat).toInt := if_pos h
theorem pko {T : Nat → Int32} {N a : Int} (h : ¬ (0 ≤ a ∧ a < N)) : pk T N a = -1 := if_neg h
def fg (T : Nat → Int32) (N a : Int) : Prop := 48 ≤ pk T N a ∧ pk T N a ≤ 57
theorem fg_in {T : Nat → Int32} {N a : Int} (h : fg T N a) : 0 ≤ a ∧ a < N := by
  apply Decidable.byContradiction
  intro z
  have := pko (T := T) z
  have := h.1
  omega
def nl (T : Nat → Int32) (N a : Int) : Int := if 48 ≤ pk T N (a + 1) ∧ pk T N (a + 1) ≤ 57 then 2 else 1
def nv (T : Nat → Int32) (N a : Int) : Int := if 48 ≤ pk T N (a + 1) ∧ pk T N (a + 1) ≤ 57 then 10 * (pk T N a - 48) + (pk T N (a + 1) - 48) else pk T N a - 48
theorem nl_2 {T : Nat → Int32} {N a : Int} (h : fg T N (a + 1)) : nl T N a = 2 ∧ nv T N a = 10 * (pk T N a - 48) + (pk T N (a + 1) - 48) := ⟨if_pos h, if_pos h⟩
theorem nl_1 {T : Nat → Int32} {N a : Int} (h : ¬ fg T N (a + 1)) : nl T N a = 1 ∧ nv T N a = pk T N a - 48 := ⟨if_neg h, if_neg h⟩
def sL (T : Nat → Int32) (N lo hi : Int) (s : Int × Int) : (Int × Int) × Int := if ¬ s.2 = 0 then (s, 0) else if lo ≤ pk T N s.1 ∧ pk T N s.1 ≤ hi then ((s.1 + 1, 0), pk T N s.1 - lo) else ((s.1, 1), 0)
def nBad (T : Nat → Int32) (N a : Int) : Prop := ¬ (48 ≤ pk T N a ∧ pk T N a ≤ 57) ∨ ((48 ≤ pk T N (a + 1) ∧ pk T N (a + 1) ≤ 57) ∧ 48 ≤ pk T N (a + 2) ∧ pk T N (a + 2) ≤ 57)
def sN (T : Nat → Int32) (N lo hi : Int) (s : Int × Int) : (Int × Int) × Int := if ¬ s.2 = 0 then (s, 0) else if ¬ (48 ≤ pk T N s.1 ∧ pk T N s.1 ≤ 57) ∨ ((48 ≤ pk T N (s.1 + 1) ∧ pk T N (s.1 + 1) ≤ 57) ∧ 48 ≤ pk T N (s.1 + 2) ∧ pk T N (s.1 + 2) ≤ 57) then ((s.1, 1), 0) else if nv T N s.1 < lo ∨ hi < nv T N s.1 then ((s.1, 2), 0) else ((s.1 + nl T N s.1, 0), nv T N s.1)
section PS
variable {T : Nat → Int32} {N lo hi a f : Int} {s : Int × Int}
theorem sL_st (h : ¬ s.2 = 0) : sL T N lo hi s = (s, 0) := if_pos h
theorem sL_ok (h : s.2 = 0) (h1 : lo ≤ pk T N s.1 ∧ pk T N s.1 ≤ hi) : sL T N lo hi s = ((s.1 + 1, 0), pk T N s.1 - lo) := by
  unfold sL
  rw [if_neg (by omega), if_pos h1]
theorem sL_no (h : s.2 = 0) (h1 : ¬ (lo ≤ pk T N s.1 ∧ pk T N s.1 ≤ hi)) : sL T N lo hi s = ((s.1, 1), 0) := by
  unfold sL
  rw [if_neg (by omega), if_neg h1]
theorem sN_st (h : ¬ s.2 = 0) : sN T N lo hi s = (s, 0) := if_pos h
theorem sN_f1 (h : s.2 = 0) (h1 : nBad T N s.1) : sN T N lo hi s = ((s.1, 1), 0) := by
  unfold sN
  unfold nBad at h1
  rw [if_neg (by omega), if_pos h1]
theorem sN_f2 (h : s.2 = 0) (h1 : ¬ nBad T N s.1) (h2 : nv T N s.1 < lo ∨ hi < nv T N s.1) : sN T N lo hi s = ((s.1, 2), 0) := by
  unfold sN
  unfold nBad at h1
  rw [if_neg (by omega), if_neg h1, if_pos h2]
theorem sN_ok (h : s.2 = 0) (h1 : ¬ nBad T N s.1) (h2 : ¬ (nv T N s.1 < lo ∨ hi < nv T N s.1)) : sN T N lo hi s = ((s.1 + nl T N s.1, 0), nv T N s.1) := by
  unfold sN
  unfold nBad at h1
  rw [if_neg (by omega), if_neg h1, if_neg h2]
/-- the place stays on the tape -/
theorem sL_in (hl : 0 ≤ lo) (h0 : 0 ≤ s.1) (h1 : s.1 ≤ N) : 0 ≤ (sL T N lo hi s).1.1 ∧ (sL T N lo hi s).1.1 ≤ N := by
  by_cases c : s.2 = 0
  · by_cases d : lo ≤ pk T N s.1 ∧ pk T N s.1 ≤ hi
    · rw [sL_ok c d]
      have e : 0 ≤ s.1 ∧ s.1 < N := by
        apply Decidable.byContradiction
        intro z
        have := pko (T := T) z
        omega
      exact ⟨by show 0 ≤ s.1 + 1; omega, by show s.1 + 1 ≤ N; omega⟩
    · rw [sL_no c d]
      exact ⟨h0, h1⟩
  · rw [sL_st c]
    exact ⟨h0, h1⟩
theorem sN_in (h0 : 0 ≤ s.1) (h1 : s.1 ≤ N) : 0 ≤ (sN T N lo hi s).1.1 ∧ (sN T N lo hi s).1.1 ≤ N := by
  by_cases c : s.2 = 0
  · by_cases d : nBad T N s.1
    · rw [sN_f1 c d]
      exact ⟨h0, h1⟩
    · by_cases e : nv T N s.1 < lo ∨ hi < nv T N s.1
      · rw [sN_f2 c d e]
        exact ⟨h0, h1⟩
      · rw [sN_ok c d e]
        have d0 : fg T N s.1 := Classical.byContradiction fun z => d (Or.inl z)
        have d1 := fg_in d0
        by_cases g : fg T N (s.1 + 1)
        · have g1 := fg_in g
          have g2 := (nl_2 g).1
          exact ⟨by show 0 ≤ s.1 + nl T N s.1; omega, by show s.1 + nl T N s.1 ≤ N; omega⟩
        · have g2 := (nl_1 g).1
          exact ⟨by show 0 ≤ s.1 + nl T N s.1; omega, by show s.1 + nl T N s.1 ≤ N; omega⟩
  · rw [sN_st c]
    exact ⟨h0, h1⟩
end PS
/-! the class's reader -/
def rst (h : zH) : Int × Int := ((h.1 13 2).toInt, (h.1 13 3).toInt)
def tp (h : zH) (T : Nat → Int32) (N : Int) : Prop := h.1 14 = T ∧ (h.1 13 1).toInt = N ∧ N ≤ 120 ∧ 0 ≤ (h.1 13 2).toInt ∧ (h.1 13 2).toInt ≤ N
def rdS (h h' : zH) (s : Int × Int) : Prop := (∀ q, q ≠ 13 → h'.1 q = h.1 q) ∧ h'.1 13 1 = h.1 13 1 ∧ (h'.1 13 2).toInt = s.1 ∧ (h'.1 13 3).toInt = s.2
theorem rdS_st {h h' : zH} {s : Int × Int} (r : rdS h h' s) : rst h' = s := by
  unfold rst
  rw [r.2.2.1, r.2.2.2]
theorem rdS_tp {h h' : zH} {s : Int × Int} {T : Nat → Int32} {N : Int} (r : rdS h h' s) (t : tp h T N) (h0 : 0 ≤ s.1) (h1 : s.1 ≤ N) : tp h' T N := by
  obtain ⟨r1, r2, r3, r4⟩ := r
  obtain ⟨t1, t2, t3, -, -⟩ := t
  refine ⟨?_, ?_, t3, by omega, by omega⟩
  · rw [r1 14 (by decide), t1]
  · rw [r2, t2]
theorem q_63 {h : zH} {Q : Option Value → zH → Prop} {T : Nat → Int32} {N : Int} (a1 : Int32) (t : tp h T N) (k1 : 0 ≤ a1.toInt ∧ a1.toInt < N → Q (some (.int (T a1.toInt.toNat))) h) (k2 : ¬ (0 ≤ a1.toInt ∧ a1.toInt < N) → Q (some (.int (-1000000 : Int32))) h) : zqm 63 [.ref 13, .int a1] h Q := by
  obtain ⟨t1, t2, t3, t4, t5⟩ := t
  refine s_63 a1 ⟨fun c => k2 (by omega), fun c => ⟨fun d => k2 (by omega), fun d => ⟨fun e => k2 (by omega), fun e b1 b2 => ?_⟩⟩⟩
  rw [t1]
  exact k1 (by omega)
theorem q_62 {h : zH} {Q : Option Value → zH → Prop} {T : Nat → Int32} {N : Int} (t : tp h T N) (k1 : (h.1 13 2).toInt < N → ∀ v : Int32, v = T (h.1 13 2).toInt.toNat → Q (some (.int v)) h) (k2 : N ≤ (h.1 13 2).toInt → Q (some (.int (-1000000 : Int32))) h) : zqm 62 [.ref 13] h Q := by
  refine s_62 ?_
  have t' := t
  obtain ⟨t1, t2, t3, t4, t5⟩ := t'
  refine q_63 _ t (fun c => ?_) (fun c => ?_)
  · exact zri_int (k1 (by omega) _ rfl)
  · exact zri_int (k2 (by omega))
theorem q_61 {h : zH} {Q : Option Value → zH → Prop} (a1 : Int32) (f0 : (h.1 13 3).toInt = 0) (H : Q none (zSet h 13 3 a1)) : zqm 61 [.ref 13, .int a1] h Q := s_61 a1 ⟨fun c => absurd f0 c, fun _ => H⟩
theorem rdS_f {h : zH} {k : Int32} {a : Int} (e : (h.1 13 2).toInt = a) : rdS h (zSet h 13 3 k) (a, k.toInt) := by
  refine ⟨fun q hq => ?_, ?_, ?_, ?_⟩
  · funext j
    rw [sg1, if_neg hq]
  · rw [sg1, if_pos rfl, if_neg (by decide)]
  · rw [sg1, if_pos rfl, if_neg (by decide)]
    exact e
  · rw [sg1, if_pos rfl, if_pos rfl]
theorem rdS_a {h : zH} {k : Int32} {f : Int} (e : (h.1 13 3).toInt = f) : rdS h (zSet h 13 2 k) (k.toInt, f) := by
  refine ⟨fun q hq => ?_, ?_, ?_, ?_⟩
  · funext j
    rw [sg1, if_neg hq]
  · rw [sg1, if_pos rfl, if_neg (by decide)]
  · rw [sg1, if_pos rfl, if_pos rfl]
  · rw [sg1, if_pos rfl, if_neg (by decide)]
    exact e
theorem rdS_rf {h : zH} : rdS h h (rst h) := ⟨fun _ _ => rfl, rfl, rfl, rfl⟩
theorem q_65 {h : zH} {Q : Option Value → zH → Prop} {T : Nat → Int32} {N : Int} (a1 a2 : Int32) (t : tp h T N) (l0 : 0 ≤ a1.toInt) (l1 : a1.toInt ≤ 1000) (H : ∀ (v : Int32) (h' : zH), tp h' T N → rdS h h' (sL T N a1.toInt a2.toInt (rst h)).1 → v.toInt = (sL T N a1.toInt a2.toInt (rst h)).2 → Q (some (.int v)) h') : zqm 65 [.ref 13, .int a1, .int a2] h Q := by
  obtain ⟨t1, t2, t3, t4, t5⟩ := id t
  have hin := sL_in (T := T) (hi := a2.toInt) (s := rst h) l0 t4 t5
  -- the three ends
  have E1 : ¬ (h.1 13 3).toInt = 0 → Q (some (.int (Int32.ofInt 0))) h := fun c => by
    have e : sL T N a1.toInt a2.toInt (rst h) = (rst h, 0) := sL_st c
    refine H _ h t ?_ ?_
    · rw [e]; exact rdS_rf
    · rw [e]; exact kc_0
  have E2 : (h.1 13 3).toInt = 0 → ¬ (a1.toInt ≤ pk T N (h.1 13 2).toInt ∧ pk T N (h.1 13 2).toInt ≤ a2.toInt) → Q (some (.int (Int32.ofInt 0))) (zSet h 13 3 (Int32.ofInt 1)) := fun c d => by
    have e : sL T N a1.toInt a2.toInt (rst h) = (((rst h).1, 1), 0) := sL_no c d
    have r : rdS h (zSet h 13 3 (Int32.ofInt 1)) ((rst h).1, 1) := by
      have := rdS_f (h := h) (k := Int32.ofInt 1) (a := (rst h).1) rfl
      rw [kc_1] at this
      exact this
    refine H _ _ (rdS_tp r t t4 t5) ?_ ?_
    · rw [e]; exact r
    · rw [e]; exact kc_0
  refine s_65 a1 a2 ?_
  refine q_62 t (fun c v hv => ?_) (fun c => ?_)
  · refine zri_int ?_
    have ep : pk T N (h.1 13 2).toInt = v.toInt := by rw [pki ⟨t4, c⟩, hv]
    refine ⟨fun d => ⟨fun e => ?_, fun e => ⟨fun g => ?_, fun g => ?_⟩⟩, fun d => E1 d⟩
    · exact q_61 _ d (E2 d (by omega))
    · have e1 := ai (x := h.1 13 2) (k := 1) (by omega) (by omega) (by omega) (by omega)
      have es : sL T N a1.toInt a2.toInt (rst h) = (((rst h).1 + 1, 0), pk T N (rst h).1 - a1.toInt) := sL_ok d (by show a1.toInt ≤ pk T N (h.1 13 2).toInt ∧ pk T N (h.1 13 2).toInt ≤ a2.toInt; omega)
      have r : rdS h (zSet h 13 2 (h.1 13 2 + Int32.ofInt 1)) ((rst h).1 + 1, 0) := by
        have := rdS_a (h := h) (k := h.1 13 2 + Int32.ofInt 1) d
        rw [e1] at this
        exact this
      refine H _ _ (rdS_tp r t (by show 0 ≤ (h.1 13 2).toInt + 1; omega) (by show (h.1 13 2).toInt + 1 ≤ N; omega)) ?_ ?_
      · rw [es]; exact r
      · rw [es]
        show (v - a1).toInt = pk T N (h.1 13 2).toInt - a1.toInt
        rw [ep]
        have hv1 := Int32.toInt_lt v
        exact wk_sub rfl rfl (by omega) (by omega)
    · exact q_61 _ d (E2 d (by omega))
  · refine zri_int ?_
    have ep : pk T N (h.1 13 2).toInt = -1 := pko (by omega)
    have em : (-1000000 : Int32).toInt = -1000000 := by decide
    refine ⟨fun d => ⟨fun e => ?_, fun e => ?_⟩, fun d => E1 d⟩
    · exact q_61 _ d (E2 d (by omega))
    · exfalso
      omega
theorem q_64 {h : zH} {Q : Option Value → zH → Prop} {T : Nat → Int32} {N : Int} (a1 : Int32) (t : tp h T N) (l0 : 0 ≤ a1.toInt) (l1 : a1.toInt ≤ 1000) (H : ∀ (h' : zH), tp h' T N → rdS h h' (sL T N a1.toInt a1.toInt (rst h)).1 → Q none h') : zqm 64 [.ref 13, .int a1] h Q := by
  refine s_64 a1 ?_
  exact q_65 a1 a1 t l0 l1 (fun v h' t' r _ => zri_int (H h' t' r))
theorem q_67 {h : zH} {Q : Option Value → zH → Prop} (a0 : Int32) (H : Q (some (.int (zbo (48 ≤ a0.toInt ∧ a0.toInt ≤ 57)))) h) : zqm 67 [.int a0] h Q := by
  refine s_67 a0 ⟨fun c => ?_, fun c => ⟨fun d => ?_, fun d => ?_⟩⟩
  · rw [zbF (by omega)] at H; exact H
  · rw [zbF (by omega)] at H; exact H
  · rw [zbT (by omega)] at H; exact H
/-- a number, once its figures are counted -/
theorem e_66 {h : zH} {Q : Option Value → zH → Prop} {T : Nat → Int32} {N : Int} (x1 x2 x3 x4 : Int32) (t : tp h T N) (f0 : (h.1 13 3).toInt = 0) (H : ∀ (v : Int32) (h' : zH), tp h' T N → rdS h h' (sN T N x1.toInt x2.toInt (rst h)).1 → v.toInt = (sN T N x1.toInt x2.toInt (rst h)).2 → Q (some (.int v)) h') (m0 : 0 ≤ x3.toInt) (m1 : x3.toInt ≤ 120) (hf : ∀ j : Int, 0 ≤ j → j < x3.toInt → fg T N ((h.1 13 2).toInt + j)) (hn : ¬ fg T N ((h.1 13 2).toInt + x3.toInt)) (hx : x4.toInt = if x3.toInt = 0 then 0 else if x3.toInt = 1 then pk T N (h.1 13 2).toInt - 48 else 10 * (pk T N (h.1 13 2).toInt - 48) + (pk T N ((h.1 13 2).toInt + 1) - 48)) :
    ((x3.toInt = 0 → zqm 61 [.ref 13, .int (Int32.ofInt 1)] h (fun _ h3 => Q (some (.int (Int32.ofInt 0))) h3)) ∧ (¬ (x3.toInt = 0) → ((x3.toInt ≤ (2 : Int) → ((x4.toInt < x1.toInt → zqm 61 [.ref 13, .int (Int32.ofInt 2)] h (fun _ h6 => Q (some (.int (Int32.ofInt 0))) h6)) ∧ (¬ (x4.toInt < x1.toInt) → ((x4.toInt ≤ x2.toInt → Q (some (.int x4)) (zSet h 13 2 ((h.1 13 2) + x3))) ∧ (¬ (x4.toInt ≤ x2.toInt) → zqm 61 [.ref 13, .int (Int32.ofInt 2)] h (fun _ h8 => Q (some (.int (Int32.ofInt 0))) h8)))))) ∧ (¬ (x3.toInt ≤ (2 : Int)) → zqm 61 [.ref 13, .int (Int32.ofInt 1)] h (fun _ h9 => Q (some (.int (Int32.ofInt 0))) h9))))) := by
  obtain ⟨t1, t2, t3, t4, t5⟩ := id t
  have F1 : nBad T N (h.1 13 2).toInt → Q (some (.int (Int32.ofInt 0))) (zSet h 13 3 (Int32.ofInt 1)) := fun d => by
    have e : sN T N x1.toInt x2.toInt (rst h) = (((rst h).1, 1), 0) := sN_f1 f0 d
    have r : rdS h (zSet h 13 3 (Int32.ofInt 1)) ((rst h).1, 1) := by
      have := rdS_f (h := h) (k := Int32.ofInt 1) (a := (rst h).1) rfl
      rw [kc_1] at this
      exact this
    refine H _ _ (rdS_tp r t t4 t5) ?_ ?_
    · rw [e]; exact r
    · rw [e]; exact kc_0
  have F2 : ¬ nBad T N (h.1 13 2).toInt → nv T N (h.1 13 2).toInt < x1.toInt ∨ x2.toInt < nv T N (h.1 13 2).toInt → Q (some (.int (Int32.ofInt 0))) (zSet h 13 3 (Int32.ofInt 2)) := fun d d2 => by
    have e : sN T N x1.toInt x2.toInt (rst h) = (((rst h).1, 2), 0) := sN_f2 f0 d d2
    have r : rdS h (zSet h 13 3 (Int32.ofInt 2)) ((rst h).1, 2) := by
      have := rdS_f (h := h) (k := Int32.ofInt 2) (a := (rst h).1) rfl
      rw [kc_2] at this
      exact this
    refine H _ _ (rdS_tp r t t4 t5) ?_ ?_
    · rw [e]; exact r
    · rw [e]; exact kc_0
  have F3 : ¬ nBad T N (h.1 13 2).toInt → ¬ (nv T N (h.1 13 2).toInt < x1.toInt ∨ x2.toInt < nv T N (h.1 13 2).toInt) → x4.toInt = nv T N (h.1 13 2).toInt → x3.toInt = nl T N (h.1 13 2).toInt → Q (some (.int x4)) (zSet h 13 2 ((h.1 13 2) + x3)) := fun d d2 d3 d4 => by
    have e : sN T N x1.toInt x2.toInt (rst h) = (((rst h).1 + nl T N (rst h).1, 0), nv T N (rst h).1) := sN_ok f0 d d2
    have e1 : (h.1 13 2 + x3).toInt = (h.1 13 2).toInt + nl T N (h.1 13 2).toInt := by
      rw [← d4]
      exact wk_add rfl rfl (by omega) (by omega)
    have r : rdS h (zSet h 13 2 ((h.1 13 2) + x3)) ((rst h).1 + nl T N (rst h).1, 0) := by
      have := rdS_a (h := h) (k := h.1 13 2 + x3) f0
      rw [e1] at this
      exact this
    have hin := sN_in (T := T) (N := N) (lo := x1.toInt) (hi := x2.toInt) (s := rst h) t4 t5
    rw [e] at hin
    refine H _ _ (rdS_tp r t hin.1 hin.2) ?_ ?_
    · rw [e]; exact r
    · rw [e]; exact d3
  refine ⟨fun c => ?_, fun c => ⟨fun d => ?_, fun d => ?_⟩⟩
  · refine q_61 _ f0 (F1 (Or.inl (fun z => hn ?_)))
    rw [c, Int.add_zero]
    exact z
  · have hc0 := hf 0 (by omega) (by omega)
    rw [Int.add_zero] at hc0
    have nb : ¬ nBad T N (h.1 13 2).toInt ∧ x4.toInt = nv T N (h.1 13 2).toInt ∧ x3.toInt = nl T N (h.1 13 2).toInt := by
      by_cases e1 : x3.toInt = 1
      · rw [e1] at hn
        have := nl_1 hn
        rw [this.1, this.2, hx, if_neg c, if_pos e1]
        refine ⟨fun z => z.elim (fun z => z hc0) (fun z => hn z.1), rfl, e1⟩
      · have e2 : x3.toInt = 2 := by omega
        rw [e2] at hn
        have h1 := hf 1 (by omega) (by omega)
        have := nl_2 h1
        rw [this.1, this.2, hx, if_neg c, if_neg e1]
        refine ⟨fun z => z.elim (fun z => z hc0) (fun z => hn z.2), rfl, e2⟩
    refine ⟨fun e => q_61 _ f0 (F2 nb.1 (by omega)), fun e => ⟨fun g => F3 nb.1 (by omega) nb.2.1 nb.2.2, fun g => q_61 _ f0 (F2 nb.1 (by omega))⟩⟩
  · exact q_61 _ f0 (F1 (Or.inr ⟨hf 1 (by omega) (by omega), hf 2 (by omega) (by omega)⟩))
theorem l_66 {h : zH} {Q : Option Value → zH → Prop} {T : Nat → Int32} {N : Int} (x1 x2 : Int32) (t : tp h T N) (f0 : (h.1 13 3).toInt = 0) (H : ∀ (v : Int32) (h' : zH), tp h' T N → rdS h h' (sN T N x1.toInt x2.toInt (rst h)).1 → v.toInt = (sN T N x1.toInt x2.toInt (rst h)).2 → Q (some (.int v)) h') : ∀ (n : Nat) (x3 x4 x5 : Int32), 0 ≤ x3.toInt → x3.toInt ≤ 120 → x5.toInt = (h.1 13 2).toInt + x3.toInt → x5.toInt ≤ N → (∀ j : Int, 0 ≤ j → j < x3.toInt → fg T N ((h.1 13 2).toInt + j)) → (x4.toInt = if x3.toInt = 0 then 0 else if x3.toInt = 1 then pk T N (h.1 13 2).toInt - 48 else 10 * (pk T N (h.1 13 2).toInt - 48) + (pk T N ((h.1 13 2).toInt + 1) - 48)) → zQ n 66 20 [some (.ref 13), some (.int x1), some (.int x2), some (.int x3), some (.int x4), some (.int x5)] [] h Q
  | 0, _, _, _, _, _, _, _, _, _ => zQ_zero
  | n + 1, x3, x4, x5, m0, m1, e5, b5, hf, hx => by
    obtain ⟨t1, t2, t3, t4, t5⟩ := id t
    refine s_66_20 x1 x2 x3 x4 x5 ⟨fun c => ?_, fun c => ?_⟩
    · refine e_66 x1 x2 x3 x4 t f0 H m0 m1 hf (fun z => ?_) hx
      have := fg_in z
      omega
    · refine q_63 x5 t (fun d => ?_) (fun d => absurd ⟨by omega, by omega⟩ d)
      refine zri_int ?_
      refine q_67 _ ?_
      refine zri_int ?_
      have ep : pk T N ((h.1 13 2).toInt + x3.toInt) = (T x5.toInt.toNat).toInt := by rw [← e5]; exact pki d
      refine ⟨fun g => ?_, fun g => ?_⟩
      · have g := zb0.mp g
        refine e_66 x1 x2 x3 x4 t f0 H m0 m1 hf (fun z => g ?_) hx
        unfold fg at z
        rw [ep] at z
        exact z
      · have g := zb1.mp g
        have gf : fg T N ((h.1 13 2).toInt + x3.toInt) := by
          unfold fg
          rw [ep]
          exact g
        have e3' := ai (x := x3) (k := 1) (by omega) (by omega) (by omega) (by omega)
        have e5' := ai (x := x5) (k := 1) (by omega) (by omega) (by omega) (by omega)
        have hf' : ∀ j : Int, 0 ≤ j → j < (x3 + Int32.ofInt 1).toInt → fg T N ((h.1 13 2).toInt + j) := fun j j0 j1 => by
          by_cases hj : j < x3.toInt
          · exact hf j j0 hj
          · have : j = x3.toInt := by omega
            rw [this]
            exact gf
        refine ⟨fun k => ?_, fun k => ?_⟩
        · refine l_66 x1 x2 t f0 H n _ _ _ (by omega) (by omega) (by omega) (by omega) hf' ?_
          rw [hx, e3', if_neg (by omega), if_neg (by omega), if_neg (by omega), if_neg (by omega)]
        · refine q_63 x5 t (fun d => ?_) (fun d => absurd ⟨by omega, by omega⟩ d)
          refine zri_int ?_
          refine l_66 x1 x2 t f0 H n _ _ _ (by omega) (by omega) (by omega) (by omega) hf' ?_
          have gb : 48 ≤ (T x5.toInt.toNat).toInt ∧ (T x5.toInt.toNat).toInt ≤ 57 := g
          by_cases z0 : x3.toInt = 0
          · rw [if_pos z0] at hx
            have m := mi (x := x4) (k := 10) (by omega) (by omega) (by omega) (by omega)
            have m2 : (Int32.ofInt 10 * x4 + T x5.toInt.toNat).toInt = 10 * x4.toInt + (T x5.toInt.toNat).toInt := wk_add m rfl (by omega) (by omega)
            have m3 : (Int32.ofInt 10 * x4 + T x5.toInt.toNat - Int32.ofInt 48).toInt = 10 * x4.toInt + (T x5.toInt.toNat).toInt - 48 := wk_sub m2 kc_48 (by omega) (by omega)
            rw [m3, e3', if_neg (by omega), if_pos (by omega), hx]
            rw [z0, Int.add_zero] at ep
            rw [ep]
            omega
          · have z1 : x3.toInt = 1 := by omega
            rw [if_neg z0, if_pos z1] at hx
            have g0 := hf 0 (by omega) (by omega)
            rw [Int.add_zero] at g0
            unfold fg at g0
            have m := mi (x := x4) (k := 10) (by omega) (by omega) (by omega) (by omega)
            have m2 : (Int32.ofInt 10 * x4 + T x5.toInt.toNat).toInt = 10 * x4.toInt + (T x5.toInt.toNat).toInt := wk_add m rfl (by omega) (by omega)
            have m3 : (Int32.ofInt 10 * x4 + T x5.toInt.toNat - Int32.ofInt 48).toInt = 10 * x4.toInt + (T x5.toInt.toNat).toInt - 48 := wk_sub m2 kc_48 (by omega) (by omega)
            rw [m3, e3', if_neg (by omega), if_neg (by omega), hx]
            rw [z1] at ep
            rw [ep]
            omega
theorem q_66 {h : zH} {Q : Option Value → zH → Prop} {T : Nat → Int32} {N : Int} (a1 a2 : Int32) (t : tp h T N) (H : ∀ (v : Int32) (h' : zH), tp h' T N → rdS h h' (sN T N a1.toInt a2.toInt (rst h)).1 → v.toInt = (sN T N a1.toInt a2.toInt (rst h)).2 → Q (some (.int v)) h') : zqm 66 [.ref 13, .int a1, .int a2] h Q := by
  obtain ⟨t1, t2, t3, t4, t5⟩ := id t
  refine s_66 a1 a2 (fun n => ⟨fun c => ?_, fun c => ?_⟩)
  · refine l_66 a1 a2 t c H n _ _ _ (by rw [kc_0]; omega) (by rw [kc_0]; omega) (by rw [kc_0]; omega) t5 (fun j j0 j1 => ?_) ?_
    · rw [kc_0] at j1
      exfalso
      omega
    · rw [kc_0, if_pos rfl]
  · have e : sN T N a1.toInt a2.toInt (rst h) = (rst h, 0) := sN_st c
    refine H _ h t ?_ ?_
    · rw [e]; exact rdS_rf
    · rw [e]; exact kc_0

/-! rows: what ties the two sides -/
def JR (h : zH) : Prop := ∀ r : Nat, r < 8 → ((h.1 12 r).toInt < 0 ↔ (h.1 59 r).toInt < 0) ∧ (0 ≤ (h.1 59 r).toInt → h.1 12 r = h.1 60 r ∧ h.1 11 r = h.1 59 r ∧ ∀ i : Nat, (i : Int) < (h.1 60 r).toInt → h.1 (3 + r) i = h.1 61 (40 * r + i))
theorem JR_fr {h h' : zH} (hf : ∀ q : Nat, (3 ≤ q ∧ q ≤ 12) ∨ (59 ≤ q ∧ q ≤ 61) → h'.1 q = h.1 q) (hJ : JR h) : JR h' := by
  intro r hr
  obtain ⟨j1, j2⟩ := hJ r hr
  rw [hf 12 (by omega), hf 59 (by omega), hf 60 (by omega), hf 11 (by omega), hf 61 (by omega), hf (3 + r) (by omega)]
  exact ⟨j1, j2⟩
theorem JR_row {h h2 : zH} {r l n : Int32} (ht : hTy h) (r0 : 0 ≤ r.toInt) (r1 : r.toInt < 8) (l0 : 0 ≤ l.toInt) (n0 : 0 ≤ n.toInt) (a12 : ∀ j, h2.1 12 j = if j = r.toInt.toNat then n else h.1 12 j) (a11 : ∀ j, h2.1 11 j = if j = r.toInt.toNat then l else h.1 11 j) (a59 : ∀ j, h2.1 59 j = if j = r.toInt.toNat then l else h.1 59 j) (a60 : ∀ j, h2.1 60 j = if j = r.toInt.toNat then n else h.1 60 j) (ai : ∀ i : Nat, (i : Int) < n.toInt → h2.1 (3 + r.toInt.toNat) i = Int32.ofInt 0) (ao : ∀ j : Nat, j < 8 → j ≠ r.toInt.toNat → h2.1 (3 + j) = h.1 (3 + j)) (a61 : ∀ j : Nat, h2.1 61 j = if 40 * r.toInt ≤ (j : Int) ∧ (j : Int) < 40 * r.toInt + 40 then Int32.ofInt 0 else h.1 61 j) (n1 : n.toInt ≤ 40) (hJ : JR h) : JR h2 := by
  intro j hj
  rw [a12, a11, a59, a60]
  by_cases hc : j = r.toInt.toNat
  · rw [if_pos hc, if_pos hc, if_pos hc, if_pos hc]
    refine ⟨⟨fun z => by omega, fun z => by omega⟩, fun _ => ⟨rfl, rfl, fun i hi => ?_⟩⟩
    rw [a61, if_pos (by omega), hc]
    exact ai i hi
  · rw [if_neg hc, if_neg hc, if_neg hc, if_neg hc]
    obtain ⟨j1, j2⟩ := hJ j hj
    refine ⟨j1, fun z => ?_⟩
    obtain ⟨k1, k2, k3⟩ := j2 z
    refine ⟨k1, k2, fun i hi => ?_⟩
    have hs := tSz ht j
    rw [a61, if_neg (by omega), ao j hj hc]
    exact k3 i hi
theorem JR_set {h h2 : zH} {r i w : Int32} (ht : hTy h) (r0 : 0 ≤ r.toInt) (r1 : r.toInt < 8) (i0 : 0 ≤ i.toInt) (i1 : i.toInt < 40) (ak : ∀ q : Nat, q = 11 ∨ q = 12 ∨ q = 59 ∨ q = 60 → h2.1 q = h.1 q) (ai : ∀ q j : Nat, 3 ≤ q → q < 11 → h2.1 q j = if q = 3 + r.toInt.toNat then (if j = i.toInt.toNat then w else h.1 q j) else h.1 q j) (a61 : ∀ j : Nat, h2.1 61 j = if j = (40 * r.toInt + i.toInt).toNat then w else h.1 61 j) (hJ : JR h) : JR h2 := by
  intro j hj
  rw [ak 12 (by omega), ak 59 (by omega), ak 60 (by omega), ak 11 (by omega)]
  obtain ⟨j1, j2⟩ := hJ j hj
  refine ⟨j1, fun z => ?_⟩
  obtain ⟨k1, k2, k3⟩ := j2 z
  refine ⟨k1, k2, fun l hl => ?_⟩
  have hs := tSz ht j
  rw [a61, ai (3 + j) l (by omega) (by omega)]
  by_cases hc : 3 + j = 3 + r.toInt.toNat
  · rw [if_pos hc]
    by_cases hd : l = i.toInt.toNat
    · rw [if_pos hd, if_pos (by omega)]
    · rw [if_neg hd, if_neg (by omega)]
      exact k3 l hl
  · rw [if_neg hc, if_neg (by omega)]
    exact k3 l hl
theorem JR_drop {h h2 : zH} {r : Int32} (r0 : 0 ≤ r.toInt) (r1 : r.toInt < 8) (a12 : ∀ j, h2.1 12 j = if j = r.toInt.toNat then Int32.ofInt (-1) else h.1 12 j) (a59 : ∀ j, h2.1 59 j = if j = r.toInt.toNat then Int32.ofInt (-1) else h.1 59 j) (ak : ∀ q : Nat, (3 ≤ q ∧ q ≤ 11) ∨ (60 ≤ q ∧ q ≤ 61) → h2.1 q = h.1 q) (hJ : JR h) : JR h2 := by
  intro j hj
  have em : (Int32.ofInt (-1)).toInt = -1 := by decide
  rw [a12, a59, ak 60 (by omega), ak 11 (by omega), ak 61 (by omega), ak (3 + j) (by omega)]
  by_cases hc : j = r.toInt.toNat
  · rw [if_pos hc, if_pos hc, em]
    exact ⟨⟨fun z => by omega, fun z => by omega⟩, fun z => by omega⟩
  · rw [if_neg hc, if_neg hc]
    exact hJ j hj
theorem JR_copy {h h2 : zH} {a i b j n : Int32} (ht : hTy h) (a0 : 0 ≤ a.toInt) (a1 : a.toInt < 8) (b0 : 0 ≤ b.toInt) (b1 : b.toInt < 8) (i0 : 0 ≤ i.toInt) (j0 : 0 ≤ j.toInt) (n0 : 0 ≤ n.toInt) (i1 : i.toInt + n.toInt ≤ (h.1 60 a.toInt.toNat).toInt) (j1 : j.toInt + n.toInt ≤ (h.1 60 b.toInt.toNat).toInt) (la : 0 ≤ (h.1 59 a.toInt.toNat).toInt) (ak : ∀ q : Nat, q = 11 ∨ q = 12 ∨ q = 59 ∨ q = 60 → h2.1 q = h.1 q) (ai : ∀ q l : Nat, 3 ≤ q → q < 11 → h2.1 q l = if q = 3 + b.toInt.toNat then (if j.toInt.toNat ≤ l ∧ l < j.toInt.toNat + n.toInt.toNat then h.1 (3 + a.toInt.toNat) (i.toInt.toNat + (l - j.toInt.toNat)) else h.1 q l) else h.1 q l) (a61 : ∀ l : Nat, h2.1 61 l = if (40 * b.toInt + j.toInt).toNat ≤ l ∧ l < (40 * b.toInt + j.toInt).toNat + n.toInt.toNat then h.1 61 ((40 * a.toInt + i.toInt).toNat + (l - (40 * b.toInt + j.toInt).toNat)) else h.1 61 l) (hJ : JR h) : JR h2 := by
  intro r hr
  rw [ak 12 (by omega), ak 59 (by omega), ak 60 (by omega), ak 11 (by omega)]
  obtain ⟨j1', j2'⟩ := hJ r hr
  refine ⟨j1', fun z => ?_⟩
  obtain ⟨k1, k2, k3⟩ := j2' z
  refine ⟨k1, k2, fun l hl => ?_⟩
  have hs := tSz ht r
  have hsb := tSz ht b.toInt.toNat
  rw [a61, ai (3 + r) l (by omega) (by omega)]
  by_cases hc : 3 + r = 3 + b.toInt.toNat
  · rw [if_pos hc]
    by_cases hd : j.toInt.toNat ≤ l ∧ l < j.toInt.toNat + n.toInt.toNat
    · rw [if_pos hd, if_pos (by omega)]
      have hA := (hJ a.toInt.toNat (by omega)).2 la
      rw [hA.2.2 (i.toInt.toNat + (l - j.toInt.toNat)) (by omega)]
      exact congrArg (h.1 61) (by omega)
    · rw [if_neg hd, if_neg (by omega)]
      exact k3 l hl
  · rw [if_neg hc, if_neg (by omega)]
    exact k3 l hl
/-! a call on one side, then on the other -/
def pr2 (MA MB n : Nat) (J : zH → Prop) : Prop := ∀ (as : List Value), as.length = n → (∀ v ∈ as, ∃ u : Int32, v = .int u) → ∀ h, hTy h → J h → zqm MA (.ref 0 :: as) h (fun rv h1 => hTy h1 → zqm MB (.ref 58 :: as) h1 (fun rv' h2 => hTy h2 → rv' = rv ∧ J h2))
theorem pr_row : pr2 80 130 3 JR := by
  intro as hl hv h ht hJ
  match as, hl, hv with
  | [v1, v2, v3], hl, hv =>
    obtain ⟨r, rfl⟩ := hv v1 (by simp)
    obtain ⟨l, rfl⟩ := hv v2 (by simp)
    obtain ⟨n, rfl⟩ := hv v3 (by simp)
    refine q_80 r l n (fun c ht1 => ?_) (fun c ht1 => ?_) (fun c h' hp ht1 => ?_)
    · refine q_130 r l n (fun d _ => ⟨rfl, hJ⟩) (fun d => ?_) (fun d => ?_)
      · exfalso; omega
      · exfalso; omega
    · refine q_130 r l n (fun d => ?_) (fun d _ => ⟨rfl, ?_⟩) (fun d => ?_)
      · exfalso; omega
      · exact JR_fr (fun q hq => by funext j; rw [sg1, if_neg (by omega), sg1, if_neg (by omega)]) hJ
      · exfalso; omega
    · refine q_130 r l n (fun d => ?_) (fun d => ?_) (fun d h'' hp2 _ => ⟨rfl, ?_⟩)
      · exfalso; omega
      · exfalso; omega
      · obtain ⟨p1, p2⟩ := hp
        obtain ⟨s1, s2⟩ := hp2
        have f1 : ∀ q : Nat, q ≠ 58 → q ≠ 61 → q ≠ 59 → q ≠ 60 → q ≠ 0 → q ≠ 3 + r.toInt.toNat → ∀ j, (zSet h'' 58 3 (Int32.ofInt 0)).1 q j = (zSet (zSet h 11 r.toInt.toNat l) 12 r.toInt.toNat n).1 q j := fun q c1 c2 c3 c4 c5 c6 j => by
          rw [sg1, if_neg c1, s1 q c2, sg1, if_neg c4, sg1, if_neg c3, sg1, if_neg c5, p1 q c6]
        refine JR_row (h := h) (r := r) (l := l) (n := n) ht (by omega) (by omega) (by omega) (by omega) (fun j => ?_) (fun j => ?_) (fun j => ?_) (fun j => ?_) (fun i hi => ?_) (fun j hj hne => ?_) (fun j => ?_) (by omega) hJ
        · rw [f1 12 (by omega) (by omega) (by omega) (by omega) (by omega) (by omega), sg1, if_pos rfl]
          rw [sg1, if_neg (show (12 : Nat) ≠ 11 by decide)]
        · rw [f1 11 (by omega) (by omega) (by omega) (by omega) (by omega) (by omega), sg1, if_neg (show (11 : Nat) ≠ 12 by decide), sg1, if_pos rfl]
        · rw [sg1, if_neg (show (59 : Nat) ≠ 58 by decide), s1 59 (by decide), sg1, if_neg (show (59 : Nat) ≠ 60 by decide), sg1, if_pos rfl]
          rw [sg1, if_neg (show (59 : Nat) ≠ 0 by decide), p1 59 (by omega), sg1, if_neg (show (59 : Nat) ≠ 12 by decide), sg1, if_neg (show (59 : Nat) ≠ 11 by decide)]
        · rw [sg1, if_neg (show (60 : Nat) ≠ 58 by decide), s1 60 (by decide), sg1, if_pos rfl]
          rw [sg1, if_neg (show (60 : Nat) ≠ 59 by decide), sg1, if_neg (show (60 : Nat) ≠ 0 by decide), p1 60 (by omega), sg1, if_neg (show (60 : Nat) ≠ 12 by decide), sg1, if_neg (show (60 : Nat) ≠ 11 by decide)]
        · rw [sg1, if_neg (by omega), s1 _ (by omega), sg1, if_neg (by omega), sg1, if_neg (by omega), sg1, if_neg (by omega)]
          exact p2 i hi
        · funext i
          rw [f1 _ (by omega) (by omega) (by omega) (by omega) (by omega) (by omega), sg1, if_neg (by omega), sg1, if_neg (by omega)]
        · rw [sg1, if_neg (show (61 : Nat) ≠ 58 by decide), s2 j]
          rw [sg1, if_neg (show (61 : Nat) ≠ 0 by decide), p1 61 (by omega), sg1, if_neg (show (61 : Nat) ≠ 12 by decide), sg1, if_neg (show (61 : Nat) ≠ 11 by decide)]
/-- what JR says of a row that a number names -/
theorem JR_at {h : zH} (hJ : JR h) {r : Int32} (r0 : 0 ≤ r.toInt) (r1 : r.toInt < 8) : ((h.1 12 r.toInt.toNat).toInt < 0 ↔ (h.1 59 r.toInt.toNat).toInt < 0) ∧ (0 ≤ (h.1 59 r.toInt.toNat).toInt → (h.1 12 r.toInt.toNat).toInt = (h.1 60 r.toInt.toNat).toInt ∧ h.1 12 r.toInt.toNat = h.1 60 r.toInt.toNat ∧ h.1 11 r.toInt.toNat = h.1 59 r.toInt.toNat) := by
  obtain ⟨j1, j2⟩ := hJ r.toInt.toNat (by omega)
  exact ⟨j1, fun z => ⟨by rw [(j2 z).1], (j2 z).1, (j2 z).2.1⟩⟩
theorem pr_set : pr2 81 131 3 JR := by
  intro as hl hv h ht hJ
  match as, hl, hv with
  | [v1, v2, v3], hl, hv =>
    obtain ⟨r, rfl⟩ := hv v1 (by simp)
    obtain ⟨i, rfl⟩ := hv v2 (by simp)
    obtain ⟨v, rfl⟩ := hv v3 (by simp)
    have hA : 0 ≤ r.toInt ∧ r.toInt < 8 → _ := fun z => JR_at hJ z.1 z.2
    have f0 : ∀ (k : Int32) (q j : Nat), q ≠ 0 → (zSet h 0 11 k).1 q j = h.1 q j := fun k q j hq => by rw [sg1, if_neg hq]
    refine q_81 r i v ht (fun c ht1 => ?_) (fun c ht1 => ?_) (fun c ht1 => ?_) (fun c ht1 => ?_)
    · refine q_131 r i v ht1 (fun d _ => ⟨rfl, hJ⟩) (fun d => ?_) (fun d => ?_) (fun d => ?_)
      all_goals (exfalso; omega)
    · have hA := hA (by omega)
      refine q_131 r i v ht1 (fun d => ?_) (fun d _ => ⟨rfl, ?_⟩) (fun d => ?_) (fun d => ?_)
      · exfalso; omega
      · exact JR_fr (fun q hq => by funext j; rw [sg1, if_neg (by omega), sg1, if_neg (by omega)]) hJ
      · rw [f0 _ _ _ (by decide)] at d
        exfalso; omega
      · rw [f0 _ _ _ (by decide)] at d
        exfalso; omega
    · have hA := hA (by omega)
      refine q_131 r i v ht1 (fun d => ?_) (fun d => ?_) (fun d _ => ⟨rfl, ?_⟩) (fun d => ?_)
      · exfalso; omega
      · rw [f0 _ _ _ (by decide)] at d
        exfalso; omega
      · exact JR_fr (fun q hq => by funext j; rw [sg1, if_neg (by omega), sg1, if_neg (by omega)]) hJ
      · rw [f0 _ _ _ (by decide), f0 _ _ _ (by decide)] at d
        exfalso; omega
    · have hA := hA (by omega)
      have hs := tSz ht r.toInt.toNat
      have f1 : ∀ (q j : Nat), q ≠ 0 → q ≠ 3 + r.toInt.toNat → (zSet (zSet h (3 + r.toInt.toNat) i.toInt.toNat (lowA (h.1 11 r.toInt.toNat) v)) 0 11 (Int32.ofInt 0)).1 q j = h.1 q j := fun q j c1 c2 => by rw [sg1, if_neg c1, sg1, if_neg c2]
      refine q_131 r i v ht1 (fun d => ?_) (fun d => ?_) (fun d => ?_) (fun d _ => ?_)
      · exfalso; omega
      · rw [f1 _ _ (by decide) (by omega)] at d
        exfalso; omega
      · rw [f1 _ _ (by decide) (by omega), f1 _ _ (by decide) (by omega)] at d
        exfalso; omega
      · rw [f1 _ _ (by decide) (by omega)]
        have e2 := (hA.2 (by omega)).2.2
        rw [e2]
        refine ⟨rfl, JR_set (h := h) (r := r) (i := i) (w := lowA (h.1 59 r.toInt.toNat) v) ht (by omega) (by omega) (by omega) (by omega) (fun q hq => ?_) (fun q j h3 h11 => ?_) (fun j => ?_) hJ⟩
        · funext j
          rw [sg1, if_neg (by omega), sg1, if_neg (by omega), sg1, if_neg (by omega), sg1, if_neg (by omega)]
        · rw [sg1, if_neg (by omega), sg1, if_neg (by omega), sg1, if_neg (by omega), sg1]
        · rw [sg1, if_neg (show (61 : Nat) ≠ 58 by decide), sg1, if_pos rfl, sg1, if_neg (show (61 : Nat) ≠ 0 by decide), sg1, if_neg (show (61 : Nat) ≠ 3 + r.toInt.toNat by omega)]
theorem pr_drop : pr2 83 134 1 JR := by
  intro as hl hv h ht hJ
  match as, hl, hv with
  | [v1], hl, hv =>
    obtain ⟨r, rfl⟩ := hv v1 (by simp)
    have hA : 0 ≤ r.toInt ∧ r.toInt < 8 → _ := fun z => JR_at hJ z.1 z.2
    have f0 : ∀ (k : Int32) (q j : Nat), q ≠ 0 → (zSet h 0 11 k).1 q j = h.1 q j := fun k q j hq => by rw [sg1, if_neg hq]
    refine q_83 r (fun c ht1 => ?_) (fun c ht1 => ?_) (fun c ht1 => ?_)
    · refine q_134 r (fun d _ => ⟨rfl, hJ⟩) (fun d => ?_) (fun d => ?_)
      all_goals (exfalso; omega)
    · have hA := hA (by omega)
      refine q_134 r (fun d => ?_) (fun d _ => ⟨rfl, ?_⟩) (fun d => ?_)
      · exfalso; omega
      · exact JR_fr (fun q hq => by funext j; rw [sg1, if_neg (by omega), sg1, if_neg (by omega)]) hJ
      · rw [f0 _ _ _ (by decide)] at d
        exfalso; omega
    · have hA := hA (by omega)
      have f1 : ∀ (q j : Nat), q ≠ 0 → q ≠ 12 → (zSet (zSet h 12 r.toInt.toNat (Int32.ofInt (-1))) 0 11 (Int32.ofInt 0)).1 q j = h.1 q j := fun q j c1 c2 => by rw [sg1, if_neg c1, sg1, if_neg c2]
      refine q_134 r (fun d => ?_) (fun d => ?_) (fun d _ => ?_)
      · exfalso; omega
      · rw [f1 _ _ (by decide) (by omega)] at d
        exfalso; omega
      · rw [f1 60 _ (by decide) (by decide)]
        have e2 := (hA.2 (by omega)).2.1
        rw [e2]
        refine ⟨rfl, JR_drop (h := h) (r := r) (by omega) (by omega) (fun j => ?_) (fun j => ?_) (fun q hq => ?_) hJ⟩
        · rw [sg1, if_neg (show (12 : Nat) ≠ 58 by decide), sg1, if_neg (show (12 : Nat) ≠ 59 by decide), sg1, if_neg (show (12 : Nat) ≠ 0 by decide), sg1, if_pos rfl]
        · rw [sg1, if_neg (show (59 : Nat) ≠ 58 by decide), sg1, if_pos rfl, sg1, if_neg (show (59 : Nat) ≠ 0 by decide), sg1, if_neg (show (59 : Nat) ≠ 12 by decide)]
        · funext j
          rw [sg1, if_neg (by omega), sg1, if_neg (by omega), sg1, if_neg (by omega), sg1, if_neg (by omega)]
theorem pr_copy : pr2 82 133 5 JR := by
  intro as hl hv h ht hJ
  match as, hl, hv with
  | [v1, v2, v3, v4, v5], hl, hv =>
    obtain ⟨a, rfl⟩ := hv v1 (by simp)
    obtain ⟨i, rfl⟩ := hv v2 (by simp)
    obtain ⟨b, rfl⟩ := hv v3 (by simp)
    obtain ⟨j, rfl⟩ := hv v4 (by simp)
    obtain ⟨n, rfl⟩ := hv v5 (by simp)
    have f0 : ∀ (k : Int32) (q j : Nat), q ≠ 0 → (zSet h 0 11 k).1 q j = h.1 q j := fun k q j hq => by rw [sg1, if_neg hq]
    have hfr : ∀ k k' : Int32, JR (zSet (zSet h 0 11 k) 58 3 k') := fun k k' => JR_fr (fun q hq => by funext j; rw [sg1, if_neg (by omega), sg1, if_neg (by omega)]) hJ
    have hA : 0 ≤ a.toInt ∧ a.toInt < 8 → _ := fun z => JR_at hJ z.1 z.2
    have hB : 0 ≤ b.toInt ∧ b.toInt < 8 → _ := fun z => JR_at hJ z.1 z.2
    have eL : (0 ≤ a.toInt ∧ a.toInt < 8) → (0 ≤ b.toInt ∧ b.toInt < 8) → ¬ ((h.1 59 a.toInt.toNat).toInt < 0 ∨ (h.1 59 b.toInt.toNat).toInt < 0) → (h.1 11 a.toInt.toNat).toInt = (h.1 59 a.toInt.toNat).toInt ∧ (h.1 11 b.toInt.toNat).toInt = (h.1 59 b.toInt.toNat).toInt := fun z1 z2 z3 => by
      rw [((hA z1).2 (by omega)).2.2, ((hB z2).2 (by omega)).2.2]
      exact ⟨rfl, rfl⟩
    refine q_82 a i b j n ht (fun c ht1 => ?_) (fun c ht1 => ?_) (fun c ht1 => ?_) (fun c ht1 => ?_) (fun c ht1 => ?_)
    · refine q_133 a i b j n ht1 (fun d _ => ⟨rfl, hJ⟩) (fun d => ?_) (fun d => ?_) (fun d => ?_) (fun d => ?_)
      all_goals (exfalso; omega)
    · have hA := hA c.1.1
      have hB := hB c.1.2
      refine q_133 a i b j n ht1 (fun d => ?_) (fun d _ => ⟨rfl, hfr _ _⟩) (fun d => ?_) (fun d => ?_) (fun d => ?_)
      all_goals (exfalso)
      · omega
      all_goals (simp only [f0 _ _ _ (show (59 : Nat) ≠ 0 by decide), f0 _ _ _ (show (60 : Nat) ≠ 0 by decide)] at d)
      all_goals omega
    · have hA' := hA c.1.1
      have hB' := hB c.1.2
      have eL := eL c.1.1 c.1.2 (by omega)
      refine q_133 a i b j n ht1 (fun d => ?_) (fun d => ?_) (fun d _ => ⟨rfl, hfr _ _⟩) (fun d => ?_) (fun d => ?_)
      all_goals (exfalso)
      · omega
      all_goals (simp only [f0 _ _ _ (show (59 : Nat) ≠ 0 by decide), f0 _ _ _ (show (60 : Nat) ≠ 0 by decide)] at d)
      all_goals omega
    · have hA' := hA c.1.1
      have hB' := hB c.1.2
      have eL := eL c.1.1 c.1.2 (by omega)
      have hA2 := hA'.2 (by omega)
      have hB2 := hB'.2 (by omega)
      refine q_133 a i b j n ht1 (fun d => ?_) (fun d => ?_) (fun d => ?_) (fun d _ => ⟨rfl, hfr _ _⟩) (fun d => ?_)
      all_goals (exfalso)
      · omega
      all_goals (simp only [f0 _ _ _ (show (59 : Nat) ≠ 0 by decide), f0 _ _ _ (show (60 : Nat) ≠ 0 by decide)] at d)
      all_goals omega
    · have hA' := hA c.1.1
      have hB' := hB c.1.2
      have eL := eL c.1.1 c.1.2 (by omega)
      have hA2 := hA'.2 (by omega)
      have hB2 := hB'.2 (by omega)
      have f1 : ∀ (q l : Nat), q ≠ 0 → q ≠ 3 + b.toInt.toNat → (zSet (zCpy h (3 + a.toInt.toNat) (3 + b.toInt.toNat) i.toInt.toNat j.toInt.toNat n.toInt.toNat) 0 11 (Int32.ofInt 0)).1 q l = h.1 q l := fun q l c1 c2 => by rw [sg1, if_neg c1, sgc1, if_neg c2]
      have g59 : ∀ l, (zSet (zCpy h (3 + a.toInt.toNat) (3 + b.toInt.toNat) i.toInt.toNat j.toInt.toNat n.toInt.toNat) 0 11 (Int32.ofInt 0)).1 59 l = h.1 59 l := fun l => f1 59 l (by decide) (by omega)
      have g60 : ∀ l, (zSet (zCpy h (3 + a.toInt.toNat) (3 + b.toInt.toNat) i.toInt.toNat j.toInt.toNat n.toInt.toNat) 0 11 (Int32.ofInt 0)).1 60 l = h.1 60 l := fun l => f1 60 l (by decide) (by omega)
      refine q_133 a i b j n ht1 (fun d => ?_) (fun d => ?_) (fun d => ?_) (fun d => ?_) (fun d h' hp _ => ?_)
      · exfalso; omega
      · simp only [g59] at d
        exfalso; omega
      · simp only [g59] at d
        exfalso; omega
      · simp only [g59, g60] at d
        exfalso; omega
      · obtain ⟨p1, p2⟩ := hp
        refine ⟨rfl, JR_copy (h := h) (a := a) (i := i) (b := b) (j := j) (n := n) ht (by omega) (by omega) (by omega) (by omega) (by omega) (by omega) (by omega) (by omega) (by omega) (by omega) (fun q hq => ?_) (fun q l h3 h11 => ?_) (fun l => ?_) hJ⟩
        · funext l
          rw [sg1, if_neg (by omega), p1 q (by omega), f1 q l (by omega) (by omega)]
        · rw [sg1, if_neg (by omega), p1 q (by omega), sg1, if_neg (by omega), sgc1]
        · rw [sg1, if_neg (show (61 : Nat) ≠ 58 by decide), p2 l]
          rw [f1 61 _ (by decide) (by omega), f1 61 _ (by decide) (by omega)]

/-! sets of at most two cells, in two orders -/
def prb (a b : Nat) : Nat := 2 ^ a ||| 2 ^ b
theorem prb_t {a b i : Nat} : (prb a b).testBit i = (decide (i = a) || decide (i = b)) := by
  unfold prb
  rw [Nat.testBit_or, Nat.testBit_two_pow, Nat.testBit_two_pow, show decide (a = i) = decide (i = a) from decide_eq_decide.mpr eq_comm, show decide (b = i) = decide (i = b) from decide_eq_decide.mpr eq_comm]
theorem prb_lt {a b : Nat} (ha : a < 15) (hb : b < 15) : prb a b < 32768 := Nat.or_lt_two_pow (n := 15) (Nat.pow_lt_pow_right (by decide) ha) (Nat.pow_lt_pow_right (by decide) hb)
def rowL (a : Nat) : Nat → List Nat
  | 0 => []
  | m + 1 => rowL a m ++ [prb a (a + m)]
def allL : Nat → List Nat
  | 0 => [0]
  | a + 1 => allL a ++ rowL a (15 - a)
theorem rowL_m {a j : Nat} : ∀ {m : Nat}, j < m → prb a (a + j) ∈ rowL a m
  | 0, h => absurd h (by omega)
  | m + 1, h => by
    by_cases z : j = m
    · subst z
      exact List.mem_append_right _ List.mem_cons_self
    · exact List.mem_append_left _ (rowL_m (by omega))
theorem allL_0 : ∀ {A : Nat}, 0 ∈ allL A
  | 0 => List.mem_cons_self
  | A + 1 => List.mem_append_left _ allL_0
theorem allL_m {a b : Nat} (hab : a ≤ b) (hb : b < 15) : ∀ {A : Nat}, a < A → prb a b ∈ allL A
  | 0, h => absurd h (by omega)
  | A + 1, h => by
    by_cases z : a = A
    · subst z
      have := rowL_m (a := a) (j := b - a) (m := 15 - a) (by omega)
      rw [show a + (b - a) = b by omega] at this
      exact List.mem_append_right _ this
    · exact List.mem_append_left _ (allL_m hab hb (by omega))
def fltL : Nat → List Nat
  | 0 => []
  | k + 1 => if cb2 k < 3 then fltL k ++ [k] else fltL k
theorem fltL_m {j : Nat} : ∀ {k : Nat}, j ∈ fltL k ↔ j < k ∧ cb2 j < 3
  | 0 => ⟨fun h => (by cases h), fun h => absurd h.1 (by omega)⟩
  | k + 1 => by
    have ih := fltL_m (j := j) (k := k)
    show j ∈ (if cb2 k < 3 then fltL k ++ [k] else fltL k) ↔ _
    by_cases z : cb2 k < 3
    · rw [if_pos z, List.mem_append, ih, List.mem_singleton]
      constructor
      · intro h
        rcases h with h | h
        · exact ⟨by omega, h.2⟩
        · subst h
          exact ⟨by omega, z⟩
      · intro h
        by_cases y : j = k
        · exact Or.inr y
        · exact Or.inl ⟨by omega, h.2⟩
    · rw [if_neg z, ih]
      constructor
      · intro h
        exact ⟨by omega, h.2⟩
      · intro h
        have : j ≠ k := fun y => z (by rw [← y]; exact h.2)
        exact ⟨by omega, h.2⟩
theorem cnt2 (p : Nat → Bool) : ∀ n : Nat, (cnt p n = 0 → ∀ i : Nat, i < n → p i = false) ∧ (cnt p n = 1 → ∃ a : Nat, a < n ∧ ∀ i : Nat, i < n → p i = decide (i = a)) ∧ (cnt p n = 2 → ∃ a b : Nat, a ≤ b ∧ b < n ∧ ∀ i : Nat, i < n → p i = (decide (i = a) || decide (i = b)))
  | 0 => ⟨fun _ i hi => absurd hi (by omega), fun h => absurd h (by show ¬ (0 : Nat) = 1; decide), fun h => absurd h (by show ¬ (0 : Nat) = 2; decide)⟩
  | n + 1 => by
    obtain ⟨i0, i1, i2⟩ := cnt2 p n
    have cs := cnt_s (p := p) (n := n)
    cases hp : p n with
    | false =>
      rw [hp, if_neg (by decide)] at cs
      rw [cs]
      refine ⟨fun h i hi => ?_, fun h => ?_, fun h => ?_⟩
      · by_cases z : i = n
        · rw [z, hp]
        · exact i0 h i (by omega)
      · obtain ⟨a, a1, a2⟩ := i1 h
        refine ⟨a, by omega, fun i hi => ?_⟩
        by_cases z : i = n
        · rw [z, hp, decide_eq_false (by omega)]
        · exact a2 i (by omega)
      · obtain ⟨a, b, a1, b1, a2⟩ := i2 h
        refine ⟨a, b, a1, by omega, fun i hi => ?_⟩
        by_cases z : i = n
        · rw [z, hp, decide_eq_false (by omega), decide_eq_false (by omega)]
          rfl
        · exact a2 i (by omega)
    | true =>
      rw [hp, if_pos rfl] at cs
      rw [cs]
      refine ⟨fun h => absurd h (by omega), fun h => ?_, fun h => ?_⟩
      · refine ⟨n, by omega, fun i hi => ?_⟩
        by_cases z : i = n
        · rw [z, hp, decide_eq_true rfl]
        · rw [decide_eq_false z]
          exact i0 (by omega) i (by omega)
      · obtain ⟨a, a1, a2⟩ := i1 (by omega)
        refine ⟨a, n, by omega, by omega, fun i hi => ?_⟩
        by_cases z : i = n
        · rw [z, hp, decide_eq_true (show n = n from rfl), Bool.or_true]
        · rw [a2 i (by omega), decide_eq_false z, Bool.or_false]
theorem allL_c {k : Nat} (hk : k < 32768) (hc : cb2 k < 3) : k ∈ allL 15 := by
  obtain ⟨i0, i1, i2⟩ := cnt2 (fun i => k.testBit i) 15
  have ex : ∀ m : Nat, m < 32768 → (∀ i : Nat, i < 15 → k.testBit i = m.testBit i) → k = m := fun m hm e => Nat.eq_of_testBit_eq (fun i => by
    by_cases z : i < 15
    · exact e i z
    · rw [tb_hi hk (by omega), tb_hi hm (by omega)])
  have h3 : cnt (fun i => k.testBit i) 15 = 0 ∨ cnt (fun i => k.testBit i) 15 = 1 ∨ cnt (fun i => k.testBit i) 15 = 2 := by
    unfold cb2 at hc
    omega
  rcases h3 with h | h | h
  · rw [ex 0 (by decide) (fun i hi => by rw [Nat.zero_testBit]; exact i0 h i hi)]
    exact allL_0
  · obtain ⟨a, a1, a2⟩ := i1 h
    rw [ex (prb a a) (prb_lt a1 a1) (fun i hi => by rw [prb_t, Bool.or_self]; exact a2 i hi)]
    exact allL_m (Nat.le_refl a) a1 a1
  · obtain ⟨a, b, a1, b1, a2⟩ := i2 h
    rw [ex (prb a b) (prb_lt (by omega) b1) (fun i hi => by rw [prb_t]; exact a2 i hi)]
    exact allL_m a1 b1 (by omega)
theorem allL_ok : ((allL 15).all fun x => Nat.blt x 32768 && Nat.blt (cb2 x) 3 && Nat.beq ((allL 15).count x) 1) = true := by decide +kernel
theorem allL_i {k : Nat} : k ∈ allL 15 ↔ k < 32768 ∧ cb2 k < 3 := by
  refine ⟨fun h => ?_, fun h => allL_c h.1 h.2⟩
  have := List.all_eq_true.mp allL_ok k h
  simp only [Bool.and_eq_true] at this
  exact ⟨Nat.le_of_ble_eq_true this.1.1, Nat.le_of_ble_eq_true this.1.2⟩
theorem fltL_n {j : Nat} : ∀ {k : Nat}, (fltL k).count j = if j < k ∧ cb2 j < 3 then 1 else 0
  | 0 => by rw [if_neg (by omega)]; rfl
  | k + 1 => by
    have ih := fltL_n (j := j) (k := k)
    show (if cb2 k < 3 then fltL k ++ [k] else fltL k).count j = _
    by_cases z : cb2 k < 3
    · rw [if_pos z, List.count_append, ih, List.count_singleton]
      by_cases y : j = k
      · subst y
        rw [if_neg (by omega), if_pos (by simp), if_pos ⟨by omega, z⟩]
      · rw [if_neg (show ¬ (k == j) = true by simpa using fun e => y e.symm), Nat.add_zero]
        by_cases x : j < k ∧ cb2 j < 3
        · rw [if_pos x, if_pos ⟨by omega, x.2⟩]
        · rw [if_neg x, if_neg (fun w => x ⟨by omega, w.2⟩)]
    · rw [if_neg z, ih]
      by_cases x : j < k ∧ cb2 j < 3
      · rw [if_pos x, if_pos ⟨by omega, x.2⟩]
      · rw [if_neg x, if_neg (fun w => x ⟨by
          have : j ≠ k := fun y => z (by rw [← y]; exact w.2)
          omega, w.2⟩)]
theorem fl_perm : (fltL 32768).Perm (allL 15) := List.perm_iff_count.mpr (fun j => by
  rw [fltL_n]
  by_cases z : j < 32768 ∧ cb2 j < 3
  · rw [if_pos z]
    have := List.all_eq_true.mp allL_ok j (allL_c z.1 z.2)
    simp only [Bool.and_eq_true] at this
    exact (Nat.eq_of_beq_eq_true this.2).symm
  · rw [if_neg z]
    exact (List.count_eq_zero.mpr (fun h => z (allL_i.mp h))).symm)
/-- the best of a row: the fewest, then the smallest -/
def ky (k : Nat) : Nat := cb2 k * 32768 + k
def bsC (F : Nat → Bool) (L : List Nat) (v : Int) : Prop := (v = -1000000 ∧ ∀ k ∈ L, F k = false) ∨ ∃ k ∈ L, k < 32768 ∧ F k = true ∧ v = (k : Int) ∧ ∀ k' ∈ L, F k' = true → ky k ≤ ky k'
theorem ky_i {a b : Nat} (ha : a < 32768) (hb : b < 32768) (e : ky a ≤ ky b) (e' : ky b ≤ ky a) : a = b := by
  unfold ky at e e'
  omega
theorem bsC_u {F : Nat → Bool} {L L' : List Nat} {v v' : Int} (hm : ∀ k, k ∈ L ↔ k ∈ L') (h : bsC F L v) (h' : bsC F L' v') : v = v' := by
  rcases h with ⟨h1, h2⟩ | ⟨k, k1, k2, k3, k4, k5⟩
  · rcases h' with ⟨g1, g2⟩ | ⟨j, j1, j2, j3, j4, j5⟩
    · rw [h1, g1]
    · have := h2 j ((hm j).mpr j1)
      rw [j3] at this
      cases this
  · rcases h' with ⟨g1, g2⟩ | ⟨j, j1, j2, j3, j4, j5⟩
    · have := g2 k ((hm k).mp k1)
      rw [k3] at this
      cases this
    · rw [k4, j4, ky_i k2 j2 (k5 j ((hm j).mpr j1) j3) (j5 k ((hm k).mp k1) k3)]
theorem bsC_n {F : Nat → Bool} {L : List Nat} {v : Int} {k : Nat} (hF : F k = false) (h : bsC F L v) : bsC F (L ++ [k]) v := by
  rcases h with ⟨h1, h2⟩ | ⟨j, j1, j2, j3, j4, j5⟩
  · refine Or.inl ⟨h1, fun j hj => ?_⟩
    rcases List.mem_append.mp hj with z | z
    · exact h2 j z
    · rw [List.mem_singleton.mp z]; exact hF
  · refine Or.inr ⟨j, List.mem_append_left _ j1, j2, j3, j4, fun i hi iF => ?_⟩
    rcases List.mem_append.mp hi with z | z
    · exact j5 i z iF
    · rw [List.mem_singleton.mp z, hF] at iF
      cases iF
/-- it is best where nothing fitted before, or it stands before what was best -/
theorem bsC_y {F : Nat → Bool} {L : List Nat} {v : Int} {k : Nat} (hk : k < 32768) (hF : F k = true) (h : bsC F L v) (hb : v = -1000000 ∨ ∃ b : Nat, v = (b : Int) ∧ ky k < ky b) : bsC F (L ++ [k]) (k : Int) := by
  refine Or.inr ⟨k, List.mem_append_right _ List.mem_cons_self, hk, hF, rfl, fun i hi iF => ?_⟩
  rcases List.mem_append.mp hi with z | z
  · rcases h with ⟨h1, h2⟩ | ⟨j, j1, j2, j3, j4, j5⟩
    · have := h2 i z
      rw [iF] at this
      cases this
    · rcases hb with hb | ⟨b, b1, b2⟩
      · omega
      · have := j5 i z iF
        have : b = j := by omega
        subst this
        omega
  · rw [List.mem_singleton.mp z]
    exact Nat.le_refl _
theorem bsC_k {F : Nat → Bool} {L : List Nat} {v : Int} {k : Nat} (h : bsC F L v) (hb : ∃ b : Nat, v = (b : Int) ∧ ky b ≤ ky k) : bsC F (L ++ [k]) v := by
  obtain ⟨b, b1, b2⟩ := hb
  rcases h with ⟨h1, h2⟩ | ⟨j, j1, j2, j3, j4, j5⟩
  · omega
  · refine Or.inr ⟨j, List.mem_append_left _ j1, j2, j3, j4, fun i hi iF => ?_⟩
    rcases List.mem_append.mp hi with z | z
    · exact j5 i z iF
    · rw [List.mem_singleton.mp z]
      have : b = j := by omega
      subst this
      exact b2
theorem bsC_r {F : Nat → Bool} {L : List Nat} {v : Int} (h : bsC F L v) : v = -1000000 ∨ ∃ b : Nat, v = (b : Int) ∧ b < 32768 := by
  rcases h with ⟨h1, h2⟩ | ⟨j, j1, j2, j3, j4, j5⟩
  · exact Or.inl h1
  · exact Or.inr ⟨j, j4, j2⟩

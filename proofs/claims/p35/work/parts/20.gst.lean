theorem nbeq : ∀ q : Nat, Nat.beq q q = true
  | 0 => rfl
  | q + 1 => nbeq q
/-! states -/
def hW (W : List (Nat × Nat × Nat)) (h h' : zH) : Prop := ∀ q j, (∀ w ∈ W, ¬ (w.1 = q ∧ w.2.1 ≤ j ∧ j ≤ w.2.2)) → h'.1 q j = h.1 q j
theorem hW.rf {W : List (Nat × Nat × Nat)} {h : zH} : hW W h h := fun _ _ _ => rfl
theorem hW.tr {W : List (Nat × Nat × Nat)} {a b c : zH} (h1 : hW W a b) (h2 : hW W b c) : hW W a c := fun q j hn => (h2 q j hn).trans (h1 q j hn)
theorem wIn_ok {W : List (Nat × Nat × Nat)} {q a b : Nat} (h : wIn W q a b = true) {j : Nat} (h1 : a ≤ j) (h2 : j ≤ b) : ∃ w ∈ W, w.1 = q ∧ w.2.1 ≤ j ∧ j ≤ w.2.2 := by
  unfold wIn at h
  obtain ⟨w, hw, hc⟩ := List.any_eq_true.mp h
  simp only [Bool.and_eq_true] at hc
  have e1 := Nat.eq_of_beq_eq_true hc.1.1
  have e2 := Nat.le_of_ble_eq_true hc.1.2
  have e3 := Nat.le_of_ble_eq_true hc.2
  exact ⟨w, hw, e1, by omega, by omega⟩
theorem zSet_at {h : zH} {q j q' j' : Nat} {x : Int32} : (zSet h q j x).1 q' j' = if q' = q ∧ j' = j then x else h.1 q' j' := by
  unfold zSet va_up upd
  dsimp only
  by_cases h1 : q' = q
  · subst h1
    by_cases h2 : j' = j
    · simp [h2]
    · simp [h2]
  · simp [h1]
theorem hW_set {W : List (Nat × Nat × Nat)} {h : zH} {q a b j : Nat} {x : Int32} (hw : wIn W q a b = true) (h1 : a ≤ j) (h2 : j ≤ b) : hW W h (zSet h q j x) := by
  intro q' j' hn
  rw [zSet_at, if_neg]
  rintro ⟨rfl, rfl⟩
  obtain ⟨w, hw, hc⟩ := wIn_ok hw h1 h2
  exact hn w hw hc
theorem hTy_set {h : zH} {q j : Nat} {x : Int32} (ht : hTy h) (h1 : (tTy q j).1 ≤ x.toInt) (h2 : x.toInt ≤ (tTy q j).2) : hTy (zSet h q j x) := by
  intro q' j'
  rw [zSet_at]
  by_cases hc : q' = q ∧ j' = j
  · rw [if_pos hc, hc.1, hc.2]
    exact ⟨h1, h2⟩
  · rw [if_neg hc]
    exact ht q' j'
section GL
variable {ρ : List Int}
theorem gL_len : ∀ {A : List (Option aV)} {L : zLo}, gL ρ A L → A.length = L.length
  | [], [], _ => rfl
  | [], _ :: _, h => h.elim
  | none :: A, [], h => h.elim
  | none :: A, _ :: L, h => by rw [List.length_cons, List.length_cons, gL_len (A := A) (L := L) h]
  | some a :: A, [], h => h.elim
  | some a :: A, none :: L, h => h.elim
  | some a :: A, some v :: L, h => by rw [List.length_cons, List.length_cons, gL_len (A := A) (L := L) h.2]
theorem gL_at : ∀ {A : List (Option aV)} {L : zLo} {k : Nat} {a : aV}, gL ρ A L → A[k]? = some (some a) → ∃ v, L[k]? = some (some v) ∧ gV ρ a v
  | [], L, k, a, _, hk => by simp at hk
  | none :: A, [], k, a, h, hk => h.elim
  | none :: A, _ :: L, 0, a, h, hk => by simp at hk
  | none :: A, _ :: L, k + 1, a, h, hk => gL_at (A := A) (L := L) (k := k) h (by simpa using hk)
  | some a :: A, [], k, b, h, hk => h.elim
  | some a :: A, none :: L, k, b, h, hk => h.elim
  | some a :: A, some v :: L, 0, b, h, hk => by
    have e : a = b := by simpa using hk
    subst e
    exact ⟨v, rfl, h.1⟩
  | some a :: A, some v :: L, k + 1, b, h, hk => gL_at (A := A) (L := L) (k := k) h.2 (by simpa using hk)
theorem gL_set {a : aV} {v : Value} (hv : gV ρ a v) : ∀ {A : List (Option aV)} {L : zLo} {k : Nat}, gL ρ A L → gL ρ (A.set k (some a)) (L.set k (some v))
  | [], [], k, h => by simpa using h
  | [], _ :: _, k, h => h.elim
  | none :: A, [], k, h => h.elim
  | none :: A, _ :: L, 0, h => ⟨hv, h⟩
  | none :: A, w :: L, k + 1, h => gL_set hv (A := A) (L := L) (k := k) h
  | some b :: A, [], k, h => h.elim
  | some b :: A, none :: L, k, h => h.elim
  | some b :: A, some w :: L, 0, h => ⟨hv, h.2⟩
  | some b :: A, some w :: L, k + 1, h => ⟨h.1, gL_set hv (A := A) (L := L) (k := k) h.2⟩
theorem gL_clr {y : Option Value} : ∀ {A : List (Option aV)} {L : zLo} {k : Nat}, gL ρ A L → gL ρ (A.set k none) (L.set k y)
  | [], [], k, h => by simpa using h
  | [], _ :: _, k, h => h.elim
  | none :: A, [], k, h => h.elim
  | none :: A, _ :: L, 0, h => h
  | none :: A, w :: L, k + 1, h => gL_clr (A := A) (L := L) (k := k) h
  | some b :: A, [], k, h => h.elim
  | some b :: A, none :: L, k, h => h.elim
  | some b :: A, some w :: L, 0, h => h.2
  | some b :: A, some w :: L, k + 1, h => ⟨h.1, gL_clr (A := A) (L := L) (k := k) h.2⟩
theorem set_same {α : Type} : ∀ {A : List α} {k : Nat} {a : α}, A[k]? = some a → A.set k a = A
  | [], k, a, h => by simp at h
  | b :: A, 0, a, h => by
    have e : b = a := by simpa using h
    rw [e]; rfl
  | b :: A, k + 1, a, h => by
    show b :: A.set k a = b :: A
    rw [set_same (by simpa using h)]
theorem gV_i {a : aA} {v : Value} (h : gV ρ (.inl (false, a)) v) : ∃ x, v = .int x ∧ gI ρ a x.toInt := by
  cases v <;> first | exact ⟨_, rfl, h⟩ | exact h.elim
theorem gV_l {a : aA} {v : Value} (h : gV ρ (.inl (true, a)) v) : ∃ x, v = .long x ∧ gI ρ a x.toInt := by
  cases v <;> first | exact ⟨_, rfl, h⟩ | exact h.elim
theorem gV_r {q : Nat} {v : Value} (h : gV ρ (.inr q) v) : v = .ref q := by
  cases v with
  | ref q' =>
    have e : q = q' := h
    rw [e]
  | _ => exact h.elim
theorem gV_li {b : aV} {z : Int64} (h : gV ρ b (.long z)) : ∃ a, b = .inl (true, a) := by
  rcases b with ⟨l, a⟩ | q
  · cases l
    · exact h.elim
    · exact ⟨a, rfl⟩
  · exact h.elim
theorem gV_di {b : aV} {z : UInt64} (h : gV ρ b (.double z)) : False := by
  rcases b with ⟨l, a⟩ | q
  · cases l <;> exact h.elim
  · exact h.elim
theorem gL_st1 {A : List (Option aV)} {L : zLo} {k : Nat} {a : aV} {v : Value} (h : gL ρ A L) (hv : gV ρ a v) : gL ρ (aSt1 A k a) (zSt1 L k v) := by
  unfold aSt1 zSt1
  cases k with
  | zero => exact gL_set hv h
  | succ j =>
    dsimp only
    split
    · rename_i b hb
      obtain ⟨w, hw, hg⟩ := gL_at h hb
      obtain ⟨z, rfl, -⟩ := gV_l hg
      rw [hw]
      exact gL_set hv (gL_clr h)
    · rename_i hb
      split
      · rename_i z hz
        have hn : A[j]? = some none := by
          have hlt : j < A.length := by rw [gL_len h]; exact (List.getElem?_eq_some_iff.mp hz).1
          have he := List.getElem?_eq_getElem hlt
          cases hA : A[j] with
          | none => rw [he, hA]
          | some b =>
            rw [hA] at he
            obtain ⟨w, hw, hg⟩ := gL_at h he
            cases hz.symm.trans hw
            obtain ⟨a', rfl⟩ := gV_li hg
            exact absurd he (hb _)
        have := gL_clr (y := none) (k := j) h
        rw [set_same hn] at this
        exact gL_set hv this
      · rename_i z hz
        have hn : A[j]? = some none := by
          have hlt : j < A.length := by rw [gL_len h]; exact (List.getElem?_eq_some_iff.mp hz).1
          have he := List.getElem?_eq_getElem hlt
          cases hA : A[j] with
          | none => rw [he, hA]
          | some b =>
            rw [hA] at he
            obtain ⟨w, hw, hg⟩ := gL_at h he
            cases hz.symm.trans hw
            exact (gV_di hg).elim
        have := gL_clr (y := none) (k := j) h
        rw [set_same hn] at this
        exact gL_set hv this
      · exact gL_set hv h
theorem gL_st2 {A : List (Option aV)} {L : zLo} {k : Nat} {a : aV} {v : Value} (h : gL ρ A L) (hv : gV ρ a v) : gL ρ (aSt2 A k a) (zSt2 L k v) := gL_clr (gL_st1 h hv)
theorem gS_cons {a : aV} {A : List aV} {S : List Value} (h : gS ρ (a :: A) S) : ∃ v s, S = v :: s ∧ gV ρ a v ∧ gS ρ A s := by
  cases S with
  | nil => exact h.elim
  | cons v s => exact ⟨v, s, rfl, h.1, h.2⟩
theorem gV_cat {a : aV} {v : Value} (h : gV ρ a v) (hc : aCat1 a = true) : Nat.beq v.category 1 = true := by
  unfold gV at h
  split at h
  · rfl
  · cases hc
  · rfl
  · exact h.elim
theorem gS_len : ∀ {A : List aV} {S : List Value}, gS ρ A S → A.length = S.length
  | [], [], _ => rfl
  | [], _ :: _, h => h.elim
  | a :: A, [], h => h.elim
  | a :: A, v :: S, h => by rw [List.length_cons, List.length_cons, gS_len (A := A) (S := S) h.2]
end GL
/-! the cells that are known -/
section GC
variable {ρ : List Int} {x : aX} {h : zH}
theorem gKeep (hx : gX ρ x h) (f : (Nat × (Nat ⊕ aA) × aA) → Bool) {h' : zH} (hf : ∀ e ∈ x.2.1, f e = true → gMe ρ h e → gMe ρ h' e) : gX ρ (aKeep x f) h' := by
  refine ⟨hx.1, fun e he => ?_, hx.2.2⟩
  obtain ⟨h1, h2⟩ := List.mem_filter.mp he
  exact hf e h1 h2 (hx.2.1 e h1)
theorem gPut (hx : gX ρ x h) {q : Nat} {k : Nat ⊕ aA} {v : aA} (hm : gMe ρ h (q, k, v)) : gX ρ (aPutM x q k v) h := by
  refine ⟨hx.1, fun e he => ?_, hx.2.2⟩
  rcases List.mem_cons.mp he with rfl | he
  · exact hm
  · exact hx.2.1 e he
theorem gFar (hx : gX ρ x h) {q : Nat} {a b : Int} {e : Nat × (Nat ⊕ aA) × aA} (hf : aFar x q a b e = true) (hm : gMe ρ h e) {h' : zH} (hh : ∀ (q' j : Nat), ¬ (q' = q ∧ a ≤ (j : Int) ∧ (j : Int) ≤ b) → h'.1 q' j = h.1 q' j) : gMe ρ h' e := by
  unfold aFar at hf
  simp only [Bool.or_eq_true, Bool.not_eq_true'] at hf
  unfold gMe at hm ⊢
  split at hm
  · rename_i s hs
    rw [hs] at hf
    simp only [Bool.or_eq_true, decide_eq_true_eq] at hf
    rw [hh e.1 s]
    · exact hm
    · rintro ⟨h1, h2, h3⟩
      rcases hf with hf | hf
      · have : e.1 ≠ q := fun z => by rw [z] at hf; rw [nbeq] at hf; cases hf
        exact this h1
      · omega
  · rename_i j hj
    rw [hj] at hf
    simp only [Bool.or_eq_true, decide_eq_true_eq] at hf
    obtain ⟨u, h1, h2, h3⟩ := hm
    refine ⟨u, h1, h2, ?_⟩
    rw [hh e.1 u.toNat]
    · exact h3
    · rintro ⟨g1, g2, g3⟩
      have bu := gBd hx h1
      rcases hf with hf | hf
      · have : e.1 ≠ q := fun z => by rw [z] at hf; rw [nbeq] at hf; cases hf
        exact this g1
      · omega
theorem gMemK (hx : gX ρ x h) {q s : Nat} {a : aA} (hm : aMemK x q s = some a) : gI ρ a (h.1 q s).toInt := by
  unfold aMemK at hm
  split at hm
  · rename_i e he
    cases hm
    have h1 := List.find?_some he
    have h2 := List.mem_of_find?_eq_some he
    simp only [Bool.and_eq_true] at h1
    have e1 := Nat.eq_of_beq_eq_true h1.1
    have h3 := hx.2.1 e h2
    unfold gMe at h3
    split at h3
    · rename_i s' hs
      rw [hs] at h1
      have e2 := Nat.eq_of_beq_eq_true h1.2
      rw [← e1, ← e2]
      exact h3
    · rename_i j hj
      rw [hj] at h1
      cases h1.2
  · cases hm
theorem gSame (hx : gX ρ x h) {i j : aA} {u v : Int} (hi : gI ρ i u) (hj : gI ρ j v) (hs : aSame x i j = true) : u = v := by
  unfold aSame at hs
  simp only [Bool.or_eq_true, Bool.and_eq_true, decide_eq_true_eq] at hs
  rcases hs with ⟨h1, h2⟩ | hs
  · have e : i = j := Prod.ext (Nat.eq_of_beq_eq_true h1) h2
    rw [e] at hi
    exact gI_unique hi hj
  · have := gBd hx hi
    have := gBd hx hj
    omega
theorem gMemI (hx : gX ρ x h) {q : Nat} {ix a : aA} {v : Int} (hi : gI ρ ix v) (hm : aMemI x q ix = some a) : gI ρ a (h.1 q v.toNat).toInt := by
  unfold aMemI at hm
  split at hm
  · rename_i e he
    cases hm
    have h1 := List.find?_some he
    have h2 := List.mem_of_find?_eq_some he
    simp only [Bool.and_eq_true] at h1
    have e1 := Nat.eq_of_beq_eq_true h1.1
    have h3 := hx.2.1 e h2
    unfold gMe at h3
    split at h3
    · rename_i s' hs
      rw [hs] at h1
      cases h1.2
    · rename_i j hj
      rw [hj] at h1
      obtain ⟨u, g1, g2, g3⟩ := h3
      have e2 := gSame hx g1 hi h1.2
      rw [← e1, ← e2]
      exact g3
  · cases hm
end GC

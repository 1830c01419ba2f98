/-! the measure of a head -/
def mB : Nat := 8589934592
def mV (a : Int × Bool) : Nat := bif a.2 then (2147483648 - a.1).toNat else (a.1 + 2147483648).toNat
def mS : Nat → List (Int × Bool) → Nat
  | 0, _ => 0
  | n + 1, [] => (mB - 1) * mB ^ n
  | n + 1, a :: l => mV a * mB ^ n + mS n l
def mOkV (a : Int × Bool) : Prop := rIn false a.1
theorem mV_le {a : Int × Bool} (h : mOkV a) : mV a + 2 ≤ mB := by
  have h2 := rOk_i.mp h
  unfold mV mB
  cases a.2 with
  | true => simp only [cond_true]; omega
  | false => simp only [cond_false]; omega
theorem mS_lt : ∀ (n : Nat) (l : List (Int × Bool)), (∀ a ∈ l, mOkV a) → mS n l < mB ^ n
  | 0, l, _ => by unfold mS; simp
  | n + 1, [], _ => by
    unfold mS
    rw [Nat.pow_succ, Nat.mul_comm (mB ^ n) mB]
    have : 0 < mB ^ n := Nat.pow_pos (by decide)
    exact Nat.mul_lt_mul_of_pos_right (by decide) this
  | n + 1, a :: l, h => by
    unfold mS
    have h1 := mV_le (h a List.mem_cons_self)
    have h2 := mS_lt n l (fun b hb => h b (List.mem_cons_of_mem _ hb))
    rw [Nat.pow_succ, Nat.mul_comm (mB ^ n) mB]
    calc mV a * mB ^ n + mS n l < mV a * mB ^ n + mB ^ n := by omega
      _ = (mV a + 1) * mB ^ n := by rw [Nat.succ_mul]
      _ ≤ mB * mB ^ n := Nat.mul_le_mul_right _ (by omega)
def gVs (ρ : List Int) : List (aA × Bool) → List (Int × Bool) → Prop
  | [], [] => True
  | a :: s, v :: vs => gI ρ a.1 v.1 ∧ a.2 = v.2 ∧ gVs ρ s vs
  | _, _ => False
theorem gVs_mono {ρ ρ' : List Int} (hp : gPre ρ ρ') : ∀ {s : List (aA × Bool)} {vs : List (Int × Bool)}, gVs ρ s vs → gVs ρ' s vs
  | [], [], _ => trivial
  | [], _ :: _, h => h.elim
  | a :: s, [], h => h.elim
  | a :: s, v :: vs, h => ⟨gI_mono hp h.1, h.2.1, gVs_mono hp (s := s) (vs := vs) h.2.2⟩
theorem gDec {ρ : List Int} : ∀ (n : Nat) (s t : List (aA × Bool)) (vs ws : List (Int × Bool)), gVs ρ s vs → gVs ρ t ws → (∀ a ∈ vs, mOkV a) → (∀ a ∈ ws, mOkV a) → ws.length ≤ n → aDec s t = true → mS n ws < mS n vs
  | 0, s, t, vs, ws, hs, ht, o1, o2, hn, hd => by
    cases ws with
    | nil =>
      cases t with
      | nil => cases s <;> cases hd
      | cons b t => exact ht.elim
    | cons w ws => simp at hn
  | n + 1, [], [], vs, ws, hs, ht, o1, o2, hn, hd => by cases hd
  | n + 1, [], b :: t, [], [], hs, ht, o1, o2, hn, hd => ht.elim
  | n + 1, [], b :: t, v :: vs, ws, hs, ht, o1, o2, hn, hd => hs.elim
  | n + 1, [], b :: t, [], w :: ws, hs, ht, o1, o2, hn, hd => by
    unfold mS
    have h1 := mV_le (o2 w List.mem_cons_self)
    have h2 := mS_lt n ws (fun b hb => o2 b (List.mem_cons_of_mem _ hb))
    calc mV w * mB ^ n + mS n ws < mV w * mB ^ n + mB ^ n := by omega
      _ = (mV w + 1) * mB ^ n := by rw [Nat.succ_mul]
      _ ≤ (mB - 1) * mB ^ n := Nat.mul_le_mul_right _ (by omega)
  | n + 1, a :: s, [], vs, ws, hs, ht, o1, o2, hn, hd => by cases hd
  | n + 1, a :: s, b :: t, [], ws, hs, ht, o1, o2, hn, hd => hs.elim
  | n + 1, a :: s, b :: t, v :: vs, [], hs, ht, o1, o2, hn, hd => ht.elim
  | n + 1, a :: s, b :: t, v :: vs, w :: ws, hs, ht, o1, o2, hn, hd => by
    have hd : (Nat.beq a.1.1 b.1.1 && (a.2 == b.2) && (bif decide (a.1.2 = b.1.2) then aDec s t else bif a.2 then decide (a.1.2 < b.1.2) else decide (b.1.2 < a.1.2))) = true := hd
    simp only [Bool.and_eq_true, beq_iff_eq] at hd
    obtain ⟨⟨d1, d2⟩, d3⟩ := hd
    have d1 := Nat.eq_of_beq_eq_true d1
    obtain ⟨z1, g1, g2⟩ := hs.1
    obtain ⟨z2, g3, g4⟩ := ht.1
    rw [d1] at g1
    cases g1.symm.trans g3
    have p1 := rOk_i.mp (o1 v List.mem_cons_self)
    have p2 := rOk_i.mp (o2 w List.mem_cons_self)
    have e1 := hs.2.1
    have e2 := ht.2.1
    unfold mS
    cases hc : decide (a.1.2 = b.1.2) with
    | true =>
      rw [hc] at d3
      rw [decide_eq_true_eq] at hc
      have ev : v = w := Prod.ext (by omega) (by rw [← e1, ← e2, d2])
      rw [ev]
      have := gDec n s t vs ws hs.2.2 ht.2.2 (fun b hb => o1 b (List.mem_cons_of_mem _ hb)) (fun b hb => o2 b (List.mem_cons_of_mem _ hb)) (by simpa using hn) d3
      omega
    | false =>
      rw [hc] at d3
      simp only [cond_false] at d3
      have hlt : mV w + 1 ≤ mV v := by
        unfold mV
        rw [← e1, ← e2, ← d2]
        cases ha : a.2 with
        | true =>
          rw [ha] at d3
          simp only [cond_true, decide_eq_true_eq] at d3
          simp only [cond_true]
          omega
        | false =>
          rw [ha] at d3
          simp only [cond_false, decide_eq_true_eq] at d3
          simp only [cond_false]
          omega
      have h2 := mS_lt n ws (fun b hb => o2 b (List.mem_cons_of_mem _ hb))
      calc mV w * mB ^ n + mS n ws < mV w * mB ^ n + mB ^ n := by omega
        _ = (mV w + 1) * mB ^ n := by rw [Nat.succ_mul]
        _ ≤ mV v * mB ^ n := Nat.mul_le_mul_right _ hlt
        _ ≤ mV v * mB ^ n + mS n vs := Nat.le_add_right _ _
/-- a head's numbers, read off locals and cells -/
def hVal (L : zLo) (h : zH) (k : (Nat ⊕ (Nat × Nat)) × Bool) : Int × Bool := (match k.1 with
  | .inl j => (match L[j]? with
    | some (some (.int u)) => u.toInt
    | _ => 0)
  | .inr (q, s) => (h.1 q s).toInt, k.2)
def hMs (v : aH) (L : zLo) (h : zH) : Nat := (100 - v.2.2.2) * mB ^ 8 + mS 8 (v.2.2.1.map (hVal L h))
theorem hVal_ok (L : zLo) (h : zH) (k : (Nat ⊕ (Nat × Nat)) × Bool) : mOkV (hVal L h k) := by
  unfold hVal mOkV
  dsimp only
  split
  · split
    · exact rIn_i _
    · exact rOk_i.mpr (by omega)
  · exact rIn_i _
section GZ
variable {ρ : List Int} {x : aX} {h : zH} {A : List (Option aV)} {L : zLo}
theorem gMemC (hx : gX ρ x h) {q s : Nat} {a : aA} (hm : aMemC x q s = some a) : gI ρ a (h.1 q s).toInt := by
  unfold aMemC at hm
  split at hm
  · rename_i e he
    cases hm
    have h1 := List.find?_some he
    have h2 := List.mem_of_find?_eq_some he
    simp only [Bool.and_eq_true] at h1
    have e1 := Nat.eq_of_beq_eq_true h1.1
    have h3 := hx.2.1 e h2
    unfold gMe at h3
    split at h3
    · rename_i s' hs
      rw [hs] at h1
      have e2 := Nat.eq_of_beq_eq_true h1.2
      rw [← e1, ← e2]
      exact h3
    · rename_i j hj
      rw [hj] at h1
      simp only [Bool.and_eq_true, decide_eq_true_eq] at h1
      obtain ⟨u, g1, g2, g3⟩ := h3
      have b1 := gBd hx g1
      have eu : u.toNat = s := by omega
      rw [← e1, ← eu]
      exact g3
  · cases hm
theorem gRks (hx : gX ρ x h) (hL : gL ρ A L) : ∀ (ks : List ((Nat ⊕ (Nat × Nat)) × Bool)) (s : List (aA × Bool)), aRks x A ks = some s → gVs ρ s (ks.map (hVal L h))
  | [], s, hs => by cases hs; exact trivial
  | k :: ks, s, hs => by
    unfold aRks oBind at hs
    split at hs
    · cases hs
    · rename_i a ha
      split at hs
      · cases hs
      · rename_i l hl
        cases hs
        refine ⟨?_, ?_, gRks hx hL ks l hl⟩
        · unfold aRk at ha
          unfold hVal
          split at ha
          · rename_i j hj
            split at ha
            · rename_i b hb
              cases ha
              obtain ⟨v, hv, hg⟩ := gL_at hL hb
              obtain ⟨u, rfl, hu⟩ := gV_i hg
              rw [hj]
              dsimp only
              rw [hv]
              exact hu
            · cases ha
          · rename_i q' s' hj
            split at ha
            · rename_i b hb
              cases ha
              rw [hj]
              exact gMemC hx hb
            · cases ha
        · unfold aRk at ha
          split at ha
          · split at ha
            · cases ha; rfl
            · cases ha
          · split at ha
            · cases ha; rfl
            · cases ha
end GZ

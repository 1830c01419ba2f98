/-! what the analyser's values mean: ρ gives each number -/
def gI (ρ : List Int) (a : aA) (v : Int) : Prop := ∃ z, ρ[a.1]? = some z ∧ v = z + a.2
def gV (ρ : List Int) : aV → Value → Prop
  | .inl (false, a), .int x => gI ρ a x.toInt
  | .inl (true, a), .long x => gI ρ a x.toInt
  | .inr q, .ref q' => q = q'
  | _, _ => False
def gL (ρ : List Int) : List (Option aV) → zLo → Prop
  | [], [] => True
  | none :: A, _ :: L => gL ρ A L
  | some a :: A, some v :: L => gV ρ a v ∧ gL ρ A L
  | _, _ => False
def gS (ρ : List Int) : List aV → List Value → Prop
  | [], [] => True
  | a :: A, v :: S => gV ρ a v ∧ gS ρ A S
  | _, _ => False
def gD (ρ : List Int) (z : Int) (t : Nat) (a b : aA) : Prop := (t = 1 → ∃ u v, gI ρ a u ∧ gI ρ b v ∧ z = u - v) ∧ (t = 2 → ∃ j, gI ρ a j ∧ 0 ≤ j ∧ (cTy (j.toNat % 62)).1 ≤ z ∧ z ≤ (cTy (j.toNat % 62)).2) ∧ (t = 3 → ∃ u v, gI ρ a u ∧ gI ρ b v ∧ z = u + v) ∧ (t = 4 → z % 62 = 0)
def gE (ρ : List Int) (n : List aE) : Prop := ρ.length = n.length ∧ ∀ (i : Nat) (z : Int) (e : aE), ρ[i]? = some z → n[i]? = some e → e.1 ≤ z ∧ z ≤ e.2.1 ∧ (e.2.2.1 = true → z ≠ 0) ∧ gD ρ z e.2.2.2.1 e.2.2.2.2.1 e.2.2.2.2.2
def gMe (ρ : List Int) (h : zH) (e : Nat × (Nat ⊕ aA) × aA) : Prop := match e.2.1 with
  | .inl s => gI ρ e.2.2 (h.1 e.1 s).toInt
  | .inr j => ∃ u : Int, gI ρ j u ∧ 0 ≤ u ∧ gI ρ e.2.2 (h.1 e.1 u.toNat).toInt
def gX (ρ : List Int) (x : aX) (h : zH) : Prop := gE ρ x.1 ∧ (∀ e ∈ x.2.1, gMe ρ h e) ∧ ∀ q ∈ x.2.2, ∃ u v, gI ρ q.1 u ∧ gI ρ q.2 v ∧ u < v
def hTy (h : zH) : Prop := ∀ q j, (tTy q j).1 ≤ (h.1 q j).toInt ∧ (h.1 q j).toInt ≤ (tTy q j).2
/-- more numbers -/
def gPre (ρ ρ' : List Int) : Prop := ∃ t, ρ' = ρ ++ t
theorem gPre.rf {ρ : List Int} : gPre ρ ρ := ⟨[], by simp⟩
theorem gPre.one {ρ : List Int} {z : Int} : gPre ρ (ρ ++ [z]) := ⟨[z], rfl⟩
theorem gPre.tr {a b c : List Int} (h1 : gPre a b) (h2 : gPre b c) : gPre a c := by
  obtain ⟨t, rfl⟩ := h1
  obtain ⟨u, rfl⟩ := h2
  exact ⟨t ++ u, by rw [List.append_assoc]⟩
section GM
variable {ρ ρ' : List Int} (hp : gPre ρ ρ')
theorem gI_mono {a : aA} {v : Int} (hp : gPre ρ ρ') (h : gI ρ a v) : gI ρ' a v := by
  obtain ⟨t, rfl⟩ := hp
  obtain ⟨z, h1, h2⟩ := h
  exact ⟨z, by rw [List.getElem?_append_left (List.getElem?_eq_some_iff.mp h1).1]; exact h1, h2⟩
theorem gV_mono {a : aV} {v : Value} (hp : gPre ρ ρ') (h : gV ρ a v) : gV ρ' a v := by
  unfold gV at h ⊢
  split at h
  · exact gI_mono hp h
  · exact gI_mono hp h
  · exact h
  · exact h.elim
theorem gL_mono (hp : gPre ρ ρ') : ∀ {A : List (Option aV)} {L : zLo}, gL ρ A L → gL ρ' A L
  | [], [], _ => trivial
  | [], _ :: _, h => h.elim
  | none :: A, [], h => h.elim
  | none :: A, _ :: L, h => gL_mono hp (A := A) (L := L) h
  | some a :: A, [], h => h.elim
  | some a :: A, none :: L, h => h.elim
  | some a :: A, some v :: L, h => ⟨gV_mono hp h.1, gL_mono hp (A := A) (L := L) h.2⟩
theorem gS_mono (hp : gPre ρ ρ') : ∀ {A : List aV} {S : List Value}, gS ρ A S → gS ρ' A S
  | [], [], _ => trivial
  | [], _ :: _, h => h.elim
  | a :: A, [], h => h.elim
  | a :: A, v :: S, h => ⟨gV_mono hp h.1, gS_mono hp (A := A) (S := S) h.2⟩
theorem gD_mono {z : Int} {t : Nat} {a b : aA} (hp : gPre ρ ρ') (h : gD ρ z t a b) : gD ρ' z t a b := by
  obtain ⟨h1, h2, h3, h4⟩ := h
  refine ⟨fun e => ?_, fun e => ?_, fun e => ?_, h4⟩
  · obtain ⟨u, v, a1, a2, a3⟩ := h1 e
    exact ⟨u, v, gI_mono hp a1, gI_mono hp a2, a3⟩
  · obtain ⟨j, a1, a2, a3⟩ := h2 e
    exact ⟨j, gI_mono hp a1, a2, a3⟩
  · obtain ⟨u, v, a1, a2, a3⟩ := h3 e
    exact ⟨u, v, gI_mono hp a1, gI_mono hp a2, a3⟩
theorem gMe_mono {h : zH} {e : Nat × (Nat ⊕ aA) × aA} (hp : gPre ρ ρ') (hm : gMe ρ h e) : gMe ρ' h e := by
  unfold gMe at hm ⊢
  split at hm
  · exact gI_mono hp hm
  · obtain ⟨u, h1, h2, h3⟩ := hm
    exact ⟨u, gI_mono hp h1, h2, gI_mono hp h3⟩
end GM
section GX
variable {ρ : List Int} {x : aX} {h : zH}
theorem gI_unique {a : aA} {u v : Int} (h1 : gI ρ a u) (h2 : gI ρ a v) : u = v := by
  obtain ⟨z, a1, a2⟩ := h1
  obtain ⟨w, b1, b2⟩ := h2
  cases a1.symm.trans b1
  omega
theorem gGet (hx : gX ρ x h) {i : Nat} {z : Int} (hz : ρ[i]? = some z) : (aGet x i).1 ≤ z ∧ z ≤ (aGet x i).2.1 ∧ ((aGet x i).2.2.1 = true → z ≠ 0) ∧ gD ρ z (aGet x i).2.2.2.1 (aGet x i).2.2.2.2.1 (aGet x i).2.2.2.2.2 ∧ x.1[i]? = some (aGet x i) := by
  have hl : i < x.1.length := by rw [← hx.1.1]; exact (List.getElem?_eq_some_iff.mp hz).1
  have he : x.1[i]? = some (aGet x i) := by
    unfold aGet
    rw [List.getD_eq_getElem?_getD, List.getElem?_eq_getElem hl]
    rfl
  obtain ⟨h1, h2, h3, h4⟩ := hx.1.2 i z _ hz he
  exact ⟨h1, h2, h3, h4, he⟩
theorem gBd (hx : gX ρ x h) {a : aA} {v : Int} (ha : gI ρ a v) : aLo x a ≤ v ∧ v ≤ aHi x a := by
  obtain ⟨z, h1, h2⟩ := ha
  obtain ⟨b1, b2, -⟩ := gGet hx h1
  unfold aLo aHi
  omega
/-- a new number that is as it is said -/
theorem gNew (hx : gX ρ x h) {lo hi z : Int} {nz : Bool} {t : Nat} {a b : aA} (h1 : lo ≤ z) (h2 : z ≤ hi) (h3 : nz = true → z ≠ 0) (h4 : gD (ρ ++ [z]) z t a b) : gX (ρ ++ [z]) (aNew x lo hi nz t a b).1 h ∧ gI (ρ ++ [z]) (aNew x lo hi nz t a b).2 z := by
  obtain ⟨⟨hl, he⟩, hm, hf⟩ := hx
  refine ⟨⟨⟨?_, ?_⟩, fun e he => gMe_mono gPre.one (hm e he), fun q hq => ?_⟩, z, ?_, by simp [aNew]⟩
  · simp [aNew, hl]
  · intro i w e hw he'
    unfold aNew at he'
    dsimp only at he'
    by_cases hi : i < ρ.length
    · rw [List.getElem?_append_left hi] at hw
      rw [List.getElem?_append_left (by rw [← hl]; exact hi)] at he'
      obtain ⟨c1, c2, c3, c4⟩ := he i w e hw he'
      exact ⟨c1, c2, c3, gD_mono gPre.one c4⟩
    · have hi2 : i = ρ.length := by
        have := (List.getElem?_eq_some_iff.mp hw).1
        simp at this
        omega
      subst hi2
      rw [List.getElem?_append_right (Nat.le_refl _), Nat.sub_self] at hw
      rw [hl, List.getElem?_append_right (Nat.le_refl _), Nat.sub_self] at he'
      cases hw
      cases he'
      exact ⟨h1, h2, h3, h4⟩
  · obtain ⟨u, v, a1, a2, a3⟩ := hf q hq
    exact ⟨u, v, gI_mono gPre.one a1, gI_mono gPre.one a2, a3⟩
  · show (ρ ++ [z])[x.1.length]? = some z
    rw [← hl, List.getElem?_append_right (Nat.le_refl _), Nat.sub_self]
    rfl
theorem gD0 {z : Int} {a b : aA} : gD ρ z 0 a b := ⟨(fun e => by cases e), (fun e => by cases e), (fun e => by cases e), fun e => by cases e⟩
theorem gNew0 (hx : gX ρ x h) {lo hi z : Int} {nz : Bool} {a b : aA} (h1 : lo ≤ z) (h2 : z ≤ hi) (h3 : nz = true → z ≠ 0) : gX (ρ ++ [z]) (aNew x lo hi nz 0 a b).1 h ∧ gI (ρ ++ [z]) (aNew x lo hi nz 0 a b).2 z := gNew hx h1 h2 h3 gD0
/-- closer bounds that still hold -/
theorem gSet (hx : gX ρ x h) {i : Nat} {z lo hi : Int} {nz : Bool} (hz : ρ[i]? = some z) (h1 : lo ≤ z) (h2 : z ≤ hi) (h3 : nz = true → z ≠ 0) : ∃ y, aSet x i lo hi nz = some y ∧ gX ρ y h := by
  obtain ⟨b1, b2, b3, b4, b5⟩ := gGet hx hz
  have hzz : (nz || (aGet x i).2.2.1) = true → z ≠ 0 := fun q => by
    rw [Bool.or_eq_true] at q
    exact q.elim h3 b3
  unfold aSet
  dsimp only
  generalize hzb : (nz || (aGet x i).2.2.1) = zb at hzz ⊢
  have hlo : (bif zb && decide (max (aGet x i).1 lo = 0) then (1 : Int) else max (aGet x i).1 lo) ≤ z := by
    cases hc : (zb && decide (max (aGet x i).1 lo = 0)) with
    | true =>
      simp only [Bool.and_eq_true, decide_eq_true_eq] at hc
      have := hzz hc.1
      have : max (aGet x i).1 lo ≤ z := by omega
      simp only [cond_true]
      omega
    | false => simp only [cond_false]; omega
  have hhi : z ≤ (bif zb && decide (min (aGet x i).2.1 hi = 0) then (-1 : Int) else min (aGet x i).2.1 hi) := by
    cases hc : (zb && decide (min (aGet x i).2.1 hi = 0)) with
    | true =>
      simp only [Bool.and_eq_true, decide_eq_true_eq] at hc
      have := hzz hc.1
      simp only [cond_true]
      omega
    | false => simp only [cond_false]; omega
  generalize (bif zb && decide (max (aGet x i).1 lo = 0) then (1 : Int) else max (aGet x i).1 lo) = lo2 at hlo ⊢
  generalize (bif zb && decide (min (aGet x i).2.1 hi = 0) then (-1 : Int) else min (aGet x i).2.1 hi) = hi2 at hhi ⊢
  rw [decide_eq_false (by omega)]
  refine ⟨_, rfl, ⟨?_, ?_⟩, hx.2.1, hx.2.2⟩
  · rw [List.length_set]; exact hx.1.1
  · intro j w e hw he
    rw [List.getElem?_set] at he
    by_cases hj : i = j
    · subst hj
      rw [if_pos rfl] at he
      split at he
      · cases he
        cases hz.symm.trans hw
        exact ⟨hlo, hhi, hzz, b4⟩
      · cases he
    · rw [if_neg hj] at he
      exact hx.1.2 j w e hw he
theorem gGe (hx : gX ρ x h) {a : aA} {v k : Int} (ha : gI ρ a v) (hk : k ≤ v) : ∃ y, aGe x a k = some y ∧ gX ρ y h := by
  obtain ⟨z, hz, hv⟩ := ha
  obtain ⟨b1, b2, b3, b4, b5⟩ := gGet hx hz
  obtain ⟨y, hy, hX⟩ := gSet (nz := false) (lo := k - a.2) (hi := max (k - a.2) (aGet x a.1).2.1) hx hz (by omega) (by omega) (fun q => by cases q)
  unfold aGe
  rw [hy]
  dsimp only
  cases ht : Nat.beq (aGet x a.1).2.2.2.1 1 with
  | false => exact ⟨y, rfl, hX⟩
  | true =>
    obtain ⟨u, w, hu, hw, hzz⟩ := b4.1 (Nat.eq_of_beq_eq_true ht)
    generalize (aGet x a.1).2.2.2.2.1 = p at hu ⊢
    generalize (aGet x a.1).2.2.2.2.2 = q at hw ⊢
    obtain ⟨bu1, bu2⟩ := gBd hX hu
    obtain ⟨zq, hzq, hwq⟩ := id hw
    obtain ⟨c1, c2, -⟩ := gGet hX hzq
    obtain ⟨y2, hy2, hX2⟩ := gSet (nz := false) (lo := (aGet y q.1).1) (hi := aHi y p - (k - a.2) - q.2) hX hzq (by omega) (by omega) (fun q => by cases q)
    simp only [cond_true]
    rw [hy2]
    dsimp only
    obtain ⟨bw1, bw2⟩ := gBd hX2 hw
    obtain ⟨zp, hzp, hup⟩ := id hu
    obtain ⟨d1, d2, -⟩ := gGet hX2 hzp
    exact gSet (nz := false) hX2 hzp (by omega) (by omega) (fun q => by cases q)
theorem gLe (hx : gX ρ x h) {a : aA} {v k : Int} (ha : gI ρ a v) (hk : v ≤ k) : ∃ y, aLe x a k = some y ∧ gX ρ y h := by
  obtain ⟨z, hz, hv⟩ := ha
  obtain ⟨b1, b2, -⟩ := gGet hx hz
  exact gSet (nz := false) hx hz (by omega) (by omega) (fun q => by cases q)
theorem gLt (hx : gX ρ x h) {a b : aA} {u v : Int} (ha : gI ρ a u) (hb : gI ρ b v) (hk : u < v) : ∃ y, aLt x a b = some y ∧ gX ρ y h := by
  unfold aLt
  cases hi : Nat.beq a.1 b.1 with
  | true =>
    have e := Nat.eq_of_beq_eq_true hi
    obtain ⟨z, h1, h2⟩ := ha
    obtain ⟨w, h3, h4⟩ := hb
    rw [← e] at h3
    cases h1.symm.trans h3
    rw [decide_eq_true (show a.2 < b.2 by omega)]
    exact ⟨x, rfl, hx⟩
  | false =>
    obtain ⟨y, hy, hX⟩ := gLe (k := aHi x b - 1) hx ha (by have := gBd hx hb; omega)
    obtain ⟨y2, hy2, hX2⟩ := gGe (k := aLo y a + 1) hX hb (by have := gBd hX ha; omega)
    simp only [cond_false, oBind, hy, hy2]
    refine ⟨_, rfl, hX2.1, hX2.2.1, fun q hq => ?_⟩
    rcases List.mem_cons.mp hq with rfl | hq
    · exact ⟨u, v, ha, hb, hk⟩
    · exact hX2.2.2 q hq
theorem gLLe (hx : gX ρ x h) {a b : aA} {u v : Int} (ha : gI ρ a u) (hb : gI ρ b v) (hk : u ≤ v) : ∃ y, aLLe x a b = some y ∧ gX ρ y h := by
  unfold aLLe
  cases hi : Nat.beq a.1 b.1 with
  | true =>
    have e := Nat.eq_of_beq_eq_true hi
    obtain ⟨z, h1, h2⟩ := ha
    obtain ⟨w, h3, h4⟩ := hb
    rw [← e] at h3
    cases h1.symm.trans h3
    rw [decide_eq_true (show a.2 ≤ b.2 by omega)]
    exact ⟨x, rfl, hx⟩
  | false =>
    have hkn : aKnown x b a = false := by
      cases hc : aKnown x b a with
      | false => rfl
      | true =>
        unfold aKnown at hc
        obtain ⟨q, hq, hc⟩ := List.any_eq_true.mp hc
        simp only [Bool.and_eq_true, decide_eq_true_eq] at hc
        obtain ⟨⟨⟨e1, e2⟩, e3⟩, e4⟩ := hc
        have e1 := Nat.eq_of_beq_eq_true e1
        have e3 := Nat.eq_of_beq_eq_true e3
        obtain ⟨s, t, h1, h2, h3⟩ := hx.2.2 q hq
        have hq1 : q.1 = b := Prod.ext e1 e2
        have hq2 : q.2 = a := Prod.ext e3 e4
        rw [hq1] at h1
        rw [hq2] at h2
        have := gI_unique h1 hb
        have := gI_unique h2 ha
        omega
    obtain ⟨y, hy, hX⟩ := gLe (k := aHi x b) hx ha (by have := gBd hx hb; omega)
    obtain ⟨y2, hy2, hX2⟩ := gGe (k := aLo y a) hX hb (by have := gBd hX ha; omega)
    simp only [cond_false, hkn, oBind, hy, hy2]
    exact ⟨_, rfl, hX2⟩
theorem gEq (hx : gX ρ x h) {a b : aA} {u v : Int} (ha : gI ρ a u) (hb : gI ρ b v) (hk : u = v) : ∃ y, aEq x a b = some y ∧ gX ρ y h := by
  unfold aEq
  cases hi : Nat.beq a.1 b.1 with
  | true =>
    have e := Nat.eq_of_beq_eq_true hi
    obtain ⟨z, h1, h2⟩ := ha
    obtain ⟨w, h3, h4⟩ := hb
    rw [← e] at h3
    cases h1.symm.trans h3
    rw [decide_eq_true (show a.2 = b.2 by omega)]
    exact ⟨x, rfl, hx⟩
  | false =>
    obtain ⟨y, hy, hX⟩ := gLLe hx ha hb (by omega)
    obtain ⟨y2, hy2, hX2⟩ := gLLe hX hb ha (by omega)
    simp only [cond_false, oBind, hy, hy2]
    exact ⟨_, rfl, hX2⟩
theorem gNk (hx : gX ρ x h) {a : aA} {u k : Int} (ha : gI ρ a u) (hk : u ≠ k) : ∃ y, aNk x a k = some y ∧ gX ρ y h := by
  unfold aNk
  have hb := gBd hx ha
  cases h1 : decide (aLo x a = k) with
  | true => rw [decide_eq_true_eq] at h1; exact gGe hx ha (by omega)
  | false =>
    cases h2 : decide (aHi x a = k) with
    | true => rw [decide_eq_true_eq] at h2; exact gLe hx ha (by omega)
    | false =>
      cases h3 : decide (k - a.2 = 0) with
      | true =>
        rw [decide_eq_true_eq] at h3
        obtain ⟨z, hz, hv⟩ := ha
        obtain ⟨c1, c2, -⟩ := gGet hx hz
        exact gSet (nz := true) hx hz c1 c2 (fun _ => by omega)
      | false => exact ⟨x, rfl, hx⟩
theorem gNe (hx : gX ρ x h) {a b : aA} {u v : Int} (ha : gI ρ a u) (hb : gI ρ b v) (hk : u ≠ v) : ∃ y, aNe x a b = some y ∧ gX ρ y h := by
  unfold aNe
  have ba := gBd hx ha
  have bb := gBd hx hb
  cases hi : Nat.beq a.1 b.1 with
  | true =>
    have e := Nat.eq_of_beq_eq_true hi
    obtain ⟨z, h1, h2⟩ := ha
    obtain ⟨w, h3, h4⟩ := hb
    rw [← e] at h3
    cases h1.symm.trans h3
    rw [decide_eq_false (show ¬ a.2 = b.2 by omega)]
    exact ⟨x, rfl, hx⟩
  | false =>
    simp only [cond_false]
    cases h1 : decide (aLo x b = aHi x b) with
    | true => rw [decide_eq_true_eq] at h1; exact gNk hx ha (by omega)
    | false =>
      simp only [cond_false]
      cases h2 : decide (aLo x a = aHi x a) with
      | true => rw [decide_eq_true_eq] at h2; exact gNk hx hb (by omega)
      | false => exact ⟨x, rfl, hx⟩
end GX

/-! what the cells may hold -/
def bd2 (p : Int × Int) : Prop := iMin ≤ p.1 ∧ p.2 ≤ iMax
theorem bd_c {c : Bool} {p q : Int × Int} (h1 : bd2 p) (h2 : bd2 q) : bd2 (bif c then p else q) := by cases c <;> assumption
def bd3 (p : Int × Int) : Prop := p.1 ≤ 0 ∧ 3 ≤ p.2 ∧ iMin ≤ p.1 ∧ p.2 ≤ iMax
theorem bd_d {c : Bool} {p q : Int × Int} (h1 : bd3 p) (h2 : bd3 q) : bd3 (bif c then p else q) := by cases c <;> assumption
theorem cTy_bd (j : Nat) : (cTy j).1 ≤ 0 ∧ 3 ≤ (cTy j).2 ∧ iMin ≤ (cTy j).1 ∧ (cTy j).2 ≤ iMax := by
  show bd3 (cTy j)
  unfold cTy
  exact bd_d (by unfold bd3; decide) (bd_d (by unfold bd3; decide) (bd_d (by unfold bd3; decide) (bd_d (by unfold bd3; decide) (by unfold bd3; decide))))
theorem oTy_bd (q j : Nat) : iMin ≤ (oTy q j).1 ∧ (oTy q j).2 ≤ iMax := by
  show bd2 (oTy q j)
  have t : bd2 (iMin, iMax) := by unfold bd2; decide
  unfold oTy
  exact bd_c (by unfold bd2; decide) (bd_c (by unfold bd2; decide) (bd_c (bd_c (by unfold bd2; decide) t) (bd_c (bd_c (by unfold bd2; decide) t) (bd_c (bd_c (by unfold bd2; decide) (bd_c (by unfold bd2; decide) (bd_c (by unfold bd2; decide) (bd_c (by unfold bd2; decide) t)))) (bd_c (by unfold bd2; decide) t)))))
theorem tTy_bd (q j : Nat) : iMin ≤ (tTy q j).1 ∧ (tTy q j).2 ≤ iMax := by
  unfold tTy
  cases isC q with
  | true => exact ⟨(cTy_bd _).2.2.1, (cTy_bd _).2.2.2⟩
  | false => exact oTy_bd q j
theorem tFlat_ty {q : Nat} (h : tFlat q = true) (j : Nat) : tTy q j = (iMin, iMax) := by
  unfold tFlat at h
  simp only [Bool.not_eq_true', Bool.or_eq_false_iff] at h
  obtain ⟨⟨⟨⟨⟨⟨⟨⟨⟨h1, h2⟩, h3⟩, h4⟩, h5⟩, h6⟩, h7⟩, h8⟩, h9⟩, h10⟩ := h
  unfold tTy oTy
  rw [h1, h2, h3, h4, h5, h6, h7, h8, h9, h10]
  rfl
theorem tHull_ok (q : Nat) : ∀ (n a j : Nat), a ≤ j → j ≤ a + n → (tHull q a n).1 ≤ (tTy q j).1 ∧ (tTy q j).2 ≤ (tHull q a n).2
  | 0, a, j, h1, h2 => by
    have e : j = a := by omega
    rw [e]
    exact ⟨Int.le_refl _, Int.le_refl _⟩
  | n + 1, a, j, h1, h2 => by
    unfold tHull
    dsimp only
    by_cases e : j = a
    · rw [e]; omega
    · have := tHull_ok q n (a + 1) j (by omega) (by omega)
      omega
theorem tMeet_ok (q : Nat) : ∀ (n a j : Nat), a ≤ j → j ≤ a + n → (tTy q j).1 ≤ (tMeet q a n).1 ∧ (tMeet q a n).2 ≤ (tTy q j).2
  | 0, a, j, h1, h2 => by
    have e : j = a := by omega
    rw [e]
    exact ⟨Int.le_refl _, Int.le_refl _⟩
  | n + 1, a, j, h1, h2 => by
    unfold tMeet
    dsimp only
    by_cases e : j = a
    · rw [e]; omega
    · have := tMeet_ok q n (a + 1) j (by omega) (by omega)
      omega
theorem tyR_ok {q a b j : Nat} (h1 : a ≤ j) (h2 : j ≤ b) : (tyR q a b).1 ≤ (tTy q j).1 ∧ (tTy q j).2 ≤ (tyR q a b).2 := by
  have hb := tTy_bd q j
  unfold tyR
  cases tFlat q with
  | true => exact hb
  | false =>
    simp only [cond_false]
    cases (isC q && Nat.ble 61 (b - a)) with
    | true => exact hb
    | false => exact tHull_ok q (b - a) a j h1 (by omega)
theorem tyW_ok {q a b j : Nat} (h1 : a ≤ j) (h2 : j ≤ b) : (tTy q j).1 ≤ (tyW q a b).1 ∧ (tyW q a b).2 ≤ (tTy q j).2 := by
  unfold tyW
  cases hf : tFlat q with
  | true => rw [tFlat_ty hf]; exact ⟨Int.le_refl _, Int.le_refl _⟩
  | false =>
    simp only [cond_false]
    cases hc : (isC q && Nat.ble 61 (b - a)) with
    | true =>
      simp only [Bool.and_eq_true] at hc
      unfold tTy
      rw [hc.1]
      have := cTy_bd (j % 62)
      simp only [cond_true]
      omega
    | false => exact tMeet_ok q (b - a) a j h1 (by omega)
theorem bif_some {α : Type} {c : Bool} {a r : α} (h : (bif c then some a else none) = some r) : c = true ∧ a = r := by
  cases c with
  | true => exact ⟨rfl, Option.some.inj h⟩
  | false => cases h
section GH
variable {W : List (Nat × Nat × Nat)} {ρ : List Int} {x : aX} {h : zH} {A : List (Option aV)} {B : List aV} {L : zLo} {S : List Value} {r' : aX × List (Option aV) × List aV} {o : Nat}
theorem gGetF {k : Nat} (hx : gX ρ x h) (hL : gL ρ A L) (hS : gS ρ B S) (ht : hTy h) (ha : aGetF o k x A B = some r') : gRes W ρ h r' (zGet o k L S h) := by
  unfold aGetF at ha
  split at ha
  · rename_i q B'
    obtain ⟨v1, s1, rfl, hv1, hT⟩ := gS_cons hS
    have e := gV_r hv1
    subst e
    unfold zGet
    dsimp only
    cases hf : zFld o k with
    | none => rw [hf] at ha; cases ha
    | some cs =>
      obtain ⟨c, s⟩ := cs
      rw [hf] at ha
      dsimp only at ha ⊢
      split at ha
      · rename_i c' fs hl
        rw [hl]
        dsimp only
        cases hb : Nat.beq c' c with
        | false => rw [hb] at ha; cases ha
        | true =>
          rw [hb] at ha
          dsimp only [cond] at ha ⊢
          split at ha
          · rename_i hs
            rw [hs]
            dsimp only
            split at ha
            · rename_i a hm
              cases ha
              exact gSt hx hL ⟨gMemK hx hm, hT⟩ ht
            · cases ha
              obtain ⟨g1, g2⟩ := gNew0 (nz := false) (a := (0, 0)) (b := (0, 0)) (z := (h.1 q s).toInt) hx (ht q s).1 (ht q s).2 (fun q => by cases q)
              exact ⟨_, _, h, _, rfl, gPre.one, gPut (k := .inl s) g1 g2, gL_mono gPre.one hL, ⟨g2, gS_mono gPre.one hT⟩, ht, hW.rf⟩
          · rename_i q' hs
            rw [hs]
            cases ha
            exact gSt hx hL ⟨rfl, hT⟩ ht
          · cases ha
      · cases ha
  · cases ha
theorem gPutF {k : Nat} (hx : gX ρ x h) (hL : gL ρ A L) (hS : gS ρ B S) (ht : hTy h) (ha : aPutF W o k x A B = some r') : gRes W ρ h r' (zPut o k L S h) := by
  unfold aPutF at ha
  split at ha
  · rename_i a q B'
    obtain ⟨v1, s1, rfl, hv1, hT⟩ := gS_cons hS
    obtain ⟨v2, s2, rfl, hv2, hU⟩ := gS_cons hT
    obtain ⟨u, rfl, hu⟩ := gV_i hv1
    have e := gV_r hv2
    subst e
    unfold zPut
    dsimp only
    cases hf : zFld o k with
    | none => rw [hf] at ha; cases ha
    | some cs =>
      obtain ⟨c, s⟩ := cs
      rw [hf] at ha
      dsimp only at ha ⊢
      split at ha
      · rename_i c' fs hl
        rw [hl]
        dsimp only
        cases hb : Nat.beq c' c with
        | false => rw [hb] at ha; cases ha
        | true =>
          rw [hb] at ha
          dsimp only [cond] at ha ⊢
          split at ha
          · rename_i hs
            rw [hs]
            dsimp only
            obtain ⟨hc, rfl⟩ := bif_some ha
            · simp only [Bool.and_eq_true, decide_eq_true_eq, Bool.or_eq_true, Bool.not_eq_true'] at hc
              obtain ⟨⟨⟨⟨c1, c2⟩, c3⟩, c4⟩, c5⟩ := hc
              have bu := gBd hx hu
              have key : gRes W ρ h (aPutM (aKeep x (aFar x q s s)) q (.inl s) a, A, B') (some (L, s2, zSet h q s u)) := by
                refine ⟨L, s2, zSet h q s u, ρ, rfl, gPre.rf, gPut (gKeep hx _ (fun e he h1 h2 => gFar hx h1 h2 (fun q' j hn => ?_))) ?_, hL, hU, hTy_set ht (by omega) (by omega), hW_set c4 (Nat.le_refl _) (Nat.le_refl _)⟩
                · rw [zSet_at, if_neg]
                  rintro ⟨rfl, rfl⟩
                  exact hn ⟨rfl, Int.le_refl _, Int.le_refl _⟩
                · show gI ρ a ((zSet h q s u).1 q s).toInt
                  rw [zSet_at, if_pos ⟨rfl, rfl⟩]
                  exact hu
              cases hB : zIsB c s with
              | false => exact key
              | true =>
                rw [hB] at c5
                rcases c5 with c5 | c5
                · cases c5
                · have h01 : u = 0 ∨ u = 1 := by
                    have : u.toInt = 0 ∨ u.toInt = 1 := by omega
                    rcases this with h0 | h0
                    · exact Or.inl (Int32.toInt_inj.mp h0)
                    · exact Or.inr (Int32.toInt_inj.mp h0)
                  simp only [cond_true]
                  rw [if_pos h01]
                  exact key
          · cases ha
      · cases ha
  · cases ha
theorem gIdx {i : Int32} {n : Nat} (h1 : 0 ≤ i.toInt) (h2 : i.toInt < (n : Int)) : ¬ (i < 0 ∨ n ≤ i.toNatClampNeg) := vp_in_iff.mpr ⟨h1, h2⟩
theorem gIal (hx : gX ρ x h) (hL : gL ρ A L) (hS : gS ρ B S) (ht : hTy h) (ha : aIal x A B = some r') : gRes W ρ h r' (zIal none L S h) := by
  unfold aIal at ha
  split at ha
  · rename_i ix q B'
    obtain ⟨v1, s1, rfl, hv1, hT⟩ := gS_cons hS
    obtain ⟨v2, s2, rfl, hv2, hU⟩ := gS_cons hT
    obtain ⟨i, rfl, hi⟩ := gV_i hv1
    have e := gV_r hv2
    subst e
    have bi := gBd hx hi
    unfold zIal zRow
    dsimp only
    split at ha
    · rename_i n hl
      rw [hl]
      dsimp only
      cases hc : (decide (0 ≤ aLo x ix) && decide (aHi x ix < (n : Int)) && aHas x ix) with
      | false => rw [hc] at ha; cases ha
      | true =>
        rw [hc] at ha
        simp only [Bool.and_eq_true, decide_eq_true_eq] at hc
        dsimp only [cond] at ha
        rw [if_neg (gIdx (by omega) (by omega))]
        split at ha
        · rename_i a hm
          cases ha
          exact gSt hx hL ⟨gMemI hx hi hm, hU⟩ ht
        · cases ha
          have hj1 : (aLo x ix).toNat ≤ i.toInt.toNat := by omega
          have hj2 : i.toInt.toNat ≤ (aHi x ix).toNat := by omega
          have hty := ht q i.toInt.toNat
          have hr := tyR_ok (q := q) hj1 hj2
          have hD : gD (ρ ++ [(h.1 q i.toInt.toNat).toInt]) (h.1 q i.toInt.toNat).toInt (bif isC q then 2 else 0) ix (0, 0) := by
            cases hq : isC q with
            | false => exact gD0
            | true =>
              refine ⟨(fun e => by cases e), (fun _ => ⟨i.toInt, gI_mono gPre.one hi, by omega, ?_⟩), (fun e => by cases e), fun e => by cases e⟩
              unfold tTy at hty
              rw [hq] at hty
              exact hty
          obtain ⟨g1, g2⟩ := gNew (nz := false) (z := (h.1 q i.toInt.toNat).toInt) (lo := (tyR q (aLo x ix).toNat (aHi x ix).toNat).1) (hi := (tyR q (aLo x ix).toNat (aHi x ix).toNat).2) hx (by omega) (by omega) (fun q => by cases q) hD
          exact ⟨_, _, h, _, rfl, gPre.one, gPut (k := .inr ix) g1 ⟨i.toInt, gI_mono gPre.one hi, by omega, g2⟩, gL_mono gPre.one hL, ⟨g2, gS_mono gPre.one hU⟩, ht, hW.rf⟩
    · cases ha
    · rename_i hl
      rw [hl]
      dsimp only
      cases hc : ((Nat.beq q 900 || Nat.beq q 901 || Nat.beq q 902) && decide (0 ≤ aLo x ix) && decide (aHi x ix < 6) && aHas x ix) with
      | false => rw [hc] at ha; cases ha
      | true =>
        rw [hc] at ha
        simp only [Bool.and_eq_true, Bool.or_eq_true, decide_eq_true_eq] at hc
        dsimp only [cond] at ha
        have hii : ¬ (i < 0 ∨ 6 ≤ i.toNatClampNeg) := gIdx (n := 6) (by omega) (by omega)
        have key : ∀ f : Nat → Int32, (∀ j, j < 6 → 0 ≤ (f j).toInt ∧ (f j).toInt ≤ 24) → gRes W ρ h r' (if i < 0 ∨ 6 ≤ i.toNatClampNeg then none else some (L, .int (f i.toNatClampNeg) :: s2, h)) := by
          intro f hf
          rw [if_neg hii]
          have hlt : i.toNatClampNeg < 6 := Nat.not_le.mp fun z => hii (Or.inr z)
          obtain ⟨g1, g2⟩ := gNew0 (nz := false) (a := (0, 0)) (b := (0, 0)) (z := (f i.toNatClampNeg).toInt) (lo := 0) (hi := 24) hx (hf _ hlt).1 (hf _ hlt).2 (fun q => by cases q)
          exact gPu_i ⟨_, gPre.one, g1, g2⟩ hL hU ht ha
        rcases hc.1.1.1 with (h9 | h9) | h9
        · have e := Nat.eq_of_beq_eq_true h9
          subst e
          exact key zs0 (by decide)
        · have e := Nat.eq_of_beq_eq_true h9
          subst e
          exact key zs1 (by decide)
        · have e := Nat.eq_of_beq_eq_true h9
          subst e
          exact key zs2 (by decide)
  · cases ha
theorem gNorm (hx : gX ρ x h) {i : aA} {u : Int} (hi : gI ρ i u) : ∃ w, gI ρ (aNorm x i) w ∧ u % 62 = w % 62 := by
  unfold aNorm
  dsimp only
  cases hc : (Nat.beq (aGet x i.1).2.2.2.1 3 && Nat.beq (aGet x (aGet x i.1).2.2.2.2.1.1).2.2.2.1 4 && decide ((aGet x i.1).2.2.2.2.1.2 = 0)) with
  | true =>
    simp only [Bool.and_eq_true, decide_eq_true_eq] at hc
    obtain ⟨⟨c1, c2⟩, c3⟩ := hc
    obtain ⟨z, hz, hu⟩ := hi
    obtain ⟨-, -, -, d, -⟩ := gGet hx hz
    obtain ⟨p, q, hp, hq, hzz⟩ := d.2.2.1 (Nat.eq_of_beq_eq_true c1)
    obtain ⟨zp, hzp, hpp⟩ := hp
    obtain ⟨-, -, -, d2, -⟩ := gGet hx hzp
    have h62 := d2.2.2.2 (Nat.eq_of_beq_eq_true c2)
    obtain ⟨zq, hzq, hqq⟩ := hq
    exact ⟨zq + ((aGet x i.1).2.2.2.2.2.2 + i.2), ⟨zq, hzq, rfl⟩, by omega⟩
  | false => exact ⟨u, hi, rfl⟩
theorem gMod (hx : gX ρ x h) {i j : aA} {u v : Int} (hi : gI ρ i u) (hj : gI ρ j v) (hm : aMod x i j = true) : u % 62 = v % 62 := by
  obtain ⟨w1, g1, e1⟩ := gNorm hx hi
  obtain ⟨w2, g2, e2⟩ := gNorm hx hj
  unfold aMod at hm
  simp only [Bool.and_eq_true, decide_eq_true_eq] at hm
  have e := Nat.eq_of_beq_eq_true hm.1
  obtain ⟨z1, h1, k1⟩ := g1
  obtain ⟨z2, h2, k2⟩ := g2
  rw [e] at h1
  cases h1.symm.trans h2
  omega
theorem gIas (hx : gX ρ x h) (hL : gL ρ A L) (hS : gS ρ B S) (ht : hTy h) (ha : aIas W x A B = some r') : gRes W ρ h r' (zIas L S h) := by
  unfold aIas at ha
  split at ha
  · rename_i v ix q B'
    obtain ⟨v1, s1, rfl, hv1, hT⟩ := gS_cons hS
    obtain ⟨v2, s2, rfl, hv2, hU⟩ := gS_cons hT
    obtain ⟨v3, s3, rfl, hv3, hV⟩ := gS_cons hU
    obtain ⟨u, rfl, hu⟩ := gV_i hv1
    obtain ⟨i, rfl, hi⟩ := gV_i hv2
    have e := gV_r hv3
    subst e
    have bi := gBd hx hi
    have bu := gBd hx hu
    unfold zIas
    dsimp only
    split at ha
    · rename_i n hl
      rw [hl]
      dsimp only at ha ⊢
      obtain ⟨hc, rfl⟩ := bif_some ha
      · simp only [Bool.and_eq_true, decide_eq_true_eq, Bool.or_eq_true] at hc
        obtain ⟨⟨⟨⟨⟨c1, c2⟩, c3⟩, c4⟩, c5⟩, c6⟩ := hc
        rw [if_neg (gIdx (by omega) (by omega))]
        have hj1 : (aLo x ix).toNat ≤ i.toInt.toNat := by omega
        have hj2 : i.toInt.toNat ≤ (aHi x ix).toNat := by omega
        have hty : (tTy q i.toInt.toNat).1 ≤ u.toInt ∧ u.toInt ≤ (tTy q i.toInt.toNat).2 := by
          rcases c6 with ⟨g1, g2⟩ | ⟨⟨⟨g1, g2⟩, g3⟩, g4⟩
          · have := tyW_ok (q := q) hj1 hj2
            omega
          · obtain ⟨z, hz, huz⟩ := hu
            obtain ⟨-, -, -, d, -⟩ := gGet hx hz
            obtain ⟨j, hj, hj0, hb1, hb2⟩ := d.2.1 (Nat.eq_of_beq_eq_true g2)
            have hm := gMod hx hj hi g4
            have e2 : j.toNat % 62 = i.toInt.toNat % 62 := by omega
            unfold tTy
            rw [g1]
            simp only [cond_true]
            rw [← e2]
            omega
        refine ⟨L, s3, zSet h q i.toInt.toNat u, ρ, rfl, gPre.rf, gPut (gKeep hx _ (fun e he h1 h2 => gFar hx h1 h2 (fun q' j hn => ?_))) ?_, hL, hV, hTy_set ht hty.1 hty.2, hW_set c5 hj1 hj2⟩
        · rw [zSet_at, if_neg]
          rintro ⟨rfl, rfl⟩
          exact hn ⟨rfl, by omega, by omega⟩
        · refine ⟨i.toInt, hi, by omega, ?_⟩
          rw [zSet_at, if_pos ⟨rfl, rfl⟩]
          exact hu
    · cases ha
  · cases ha
theorem gLal (hx : gX ρ x h) (hL : gL ρ A L) (hS : gS ρ B S) (ht : hTy h) (ha : aLal x A B = some r') : gRes W ρ h r' (zLal L S h) := by
  unfold aLal at ha
  split at ha
  · rename_i ix q B'
    obtain ⟨v1, s1, rfl, hv1, hT⟩ := gS_cons hS
    obtain ⟨v2, s2, rfl, hv2, hU⟩ := gS_cons hT
    obtain ⟨i, rfl, hi⟩ := gV_i hv1
    have e := gV_r hv2
    subst e
    have bi := gBd hx hi
    unfold zLal
    dsimp only
    split at ha
    · rename_i n hl
      rw [hl]
      dsimp only at ha ⊢
      cases hc : (decide (0 ≤ aLo x ix) && decide (aHi x ix < (n : Int)) && aHas x ix) with
      | false => rw [hc] at ha; cases ha
      | true =>
        rw [hc] at ha
        simp only [Bool.and_eq_true, decide_eq_true_eq] at hc
        rw [if_neg (gIdx (by omega) (by omega))]
        exact gPu_l (gTopL hx (rIn_l _)) hL hU ht ha
    · cases ha
  · cases ha
theorem gLas (hx : gX ρ x h) (hL : gL ρ A L) (hS : gS ρ B S) (ht : hTy h) (ha : aLas x A B = some r') : gRes W ρ h r' (zLas L S h) := by
  unfold aLas at ha
  split at ha
  · rename_i v ix q B'
    obtain ⟨v1, s1, rfl, hv1, hT⟩ := gS_cons hS
    obtain ⟨v2, s2, rfl, hv2, hU⟩ := gS_cons hT
    obtain ⟨v3, s3, rfl, hv3, hV⟩ := gS_cons hU
    obtain ⟨u, rfl, hu⟩ := gV_l hv1
    obtain ⟨i, rfl, hi⟩ := gV_i hv2
    have e := gV_r hv3
    subst e
    have bi := gBd hx hi
    unfold zLas
    dsimp only
    split at ha
    · rename_i n hl
      rw [hl]
      dsimp only at ha ⊢
      cases hc : (decide (0 ≤ aLo x ix) && decide (aHi x ix < (n : Int)) && aHas x ix) with
      | false => rw [hc] at ha; cases ha
      | true =>
        rw [hc] at ha
        cases ha
        simp only [Bool.and_eq_true, decide_eq_true_eq] at hc
        rw [if_neg (gIdx (by omega) (by omega))]
        exact ⟨L, s3, _, ρ, rfl, gPre.rf, ⟨hx.1, hx.2.1, hx.2.2⟩, hL, hV, ht, fun _ _ _ => rfl⟩
    · cases ha
  · cases ha
end GH

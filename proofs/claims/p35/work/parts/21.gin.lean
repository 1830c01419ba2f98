/-! an instruction that goes on in one way -/
def gRes (W : List (Nat × Nat × Nat)) (ρ : List Int) (h : zH) (r' : aX × List (Option aV) × List aV) (r : Option zF) : Prop :=
  ∃ (L' : zLo) (S' : List Value) (h' : zH) (ρ' : List Int), r = some (L', S', h') ∧ gPre ρ ρ' ∧ gX ρ' r'.1 h' ∧ gL ρ' r'.2.1 L' ∧ gS ρ' r'.2.2 S' ∧ hTy h' ∧ hW W h h'
section GN
variable {W : List (Nat × Nat × Nat)} {ρ : List Int} {x : aX} {h : zH} {A : List (Option aV)} {B : List aV} {L : zLo} {S : List Value} {r' : aX × List (Option aV) × List aV} {o : Nat}
theorem gPu_i {p : aX × aA} {u : Int32} (hO : gOut ρ h p u.toInt) (hL : gL ρ A L) (hS : gS ρ B S) (ht : hTy h) (he : aPu false p A B = some r') : gRes W ρ h r' (some (L, .int u :: S, h)) := by
  obtain ⟨ρ', hp, hx, hi⟩ := hO
  cases he
  exact ⟨L, .int u :: S, h, ρ', rfl, hp, hx, gL_mono hp hL, ⟨hi, gS_mono hp hS⟩, ht, hW.rf⟩
theorem gPu_l {p : aX × aA} {u : Int64} (hO : gOut ρ h p u.toInt) (hL : gL ρ A L) (hS : gS ρ B S) (ht : hTy h) (he : aPu true p A B = some r') : gRes W ρ h r' (some (L, .long u :: S, h)) := by
  obtain ⟨ρ', hp, hx, hi⟩ := hO
  cases he
  exact ⟨L, .long u :: S, h, ρ', rfl, hp, hx, gL_mono hp hL, ⟨hi, gS_mono hp hS⟩, ht, hW.rf⟩
theorem gSt {L' : zLo} {S' : List Value} (hx : gX ρ r'.1 h) (hL : gL ρ r'.2.1 L') (hS : gS ρ r'.2.2 S') (ht : hTy h) : gRes W ρ h r' (some (L', S', h)) := ⟨L', S', h, ρ, rfl, gPre.rf, hx, hL, hS, ht, hW.rf⟩
theorem gBin {f : aX → aA → aA → aX × aA} {g : Int32 → Int32 → Int32} (hx : gX ρ x h) (hL : gL ρ A L) (hS : gS ρ B S) (ht : hTy h) (hf : ∀ (a b : aA) (u v : Int32), gI ρ a u.toInt → gI ρ b v.toInt → gOut ρ h (f x a b) (g u v).toInt) (ha : aBin f x A B = some r') : gRes W ρ h r' (zBin g L S h) := by
  unfold aBin at ha
  split at ha
  · rename_i b a B'
    obtain ⟨v1, s1, rfl, hv1, hT⟩ := gS_cons hS
    obtain ⟨v2, s2, rfl, hv2, hU⟩ := gS_cons hT
    obtain ⟨v, rfl, hv⟩ := gV_i hv1
    obtain ⟨u, rfl, hu⟩ := gV_i hv2
    exact gPu_i (hf a b u v hu hv) hL hU ht ha
  · cases ha
theorem gLin {f : aX → aA → aA → aX × aA} {g : Int64 → Int64 → Int64} (hx : gX ρ x h) (hL : gL ρ A L) (hS : gS ρ B S) (ht : hTy h) (hf : ∀ (a b : aA) (u v : Int64), gI ρ a u.toInt → gI ρ b v.toInt → gOut ρ h (f x a b) (g u v).toInt) (ha : aLin f x A B = some r') : gRes W ρ h r' (zLin g L S h) := by
  unfold aLin at ha
  split at ha
  · rename_i b a B'
    obtain ⟨v1, s1, rfl, hv1, hT⟩ := gS_cons hS
    obtain ⟨v2, s2, rfl, hv2, hU⟩ := gS_cons hT
    obtain ⟨v, rfl, hv⟩ := gV_l hv1
    obtain ⟨u, rfl, hu⟩ := gV_l hv2
    exact gPu_l (hf a b u v hu hv) hL hU ht ha
  · cases ha
theorem i32_ne0 {v : Int32} (h : v.toInt ≠ 0) : ¬ v = 0 := fun e => h (by rw [e]; rfl)
theorem i64_ne0 {v : Int64} (h : v.toInt ≠ 0) : ¬ v = 0 := fun e => h (by rw [e]; rfl)
theorem gBiO {f : aX → aA → aA → Option (aX × aA)} {g : Int32 → Int32 → Int32} (hx : gX ρ x h) (hL : gL ρ A L) (hS : gS ρ B S) (ht : hTy h) (hf : ∀ (a b : aA) (u v : Int32) (p : aX × aA), gI ρ a u.toInt → gI ρ b v.toInt → f x a b = some p → v.toInt ≠ 0 ∧ gOut ρ h p (g u v).toInt) (ha : aBiO f x A B = some r') : gRes W ρ h r' (zBiD g L S h) := by
  unfold aBiO at ha
  split at ha
  · rename_i b a B'
    obtain ⟨v1, s1, rfl, hv1, hT⟩ := gS_cons hS
    obtain ⟨v2, s2, rfl, hv2, hU⟩ := gS_cons hT
    obtain ⟨v, rfl, hv⟩ := gV_i hv1
    obtain ⟨u, rfl, hu⟩ := gV_i hv2
    unfold aPo at ha
    split at ha
    · rename_i p hp
      obtain ⟨h0, hO⟩ := hf a b u v p hu hv hp
      show gRes W ρ h r' (if v = 0 then none else some (L, .int (g u v) :: s2, h))
      rw [if_neg (i32_ne0 h0)]
      exact gPu_i hO hL hU ht ha
    · cases ha
  · cases ha
theorem gLiO {f : aX → aA → aA → Option (aX × aA)} {g : Int64 → Int64 → Int64} (hx : gX ρ x h) (hL : gL ρ A L) (hS : gS ρ B S) (ht : hTy h) (hf : ∀ (a b : aA) (u v : Int64) (p : aX × aA), gI ρ a u.toInt → gI ρ b v.toInt → f x a b = some p → v.toInt ≠ 0 ∧ gOut ρ h p (g u v).toInt) (ha : aLiO f x A B = some r') : gRes W ρ h r' (zLiD g L S h) := by
  unfold aLiO at ha
  split at ha
  · rename_i b a B'
    obtain ⟨v1, s1, rfl, hv1, hT⟩ := gS_cons hS
    obtain ⟨v2, s2, rfl, hv2, hU⟩ := gS_cons hT
    obtain ⟨v, rfl, hv⟩ := gV_l hv1
    obtain ⟨u, rfl, hu⟩ := gV_l hv2
    unfold aPo at ha
    split at ha
    · rename_i p hp
      obtain ⟨h0, hO⟩ := hf a b u v p hu hv hp
      show gRes W ρ h r' (if v = 0 then none else some (L, .long (g u v) :: s2, h))
      rw [if_neg (i64_ne0 h0)]
      exact gPu_l hO hL hU ht ha
    · cases ha
  · cases ha
theorem gUn {g : Int32 → Int32} (hx : gX ρ x h) (hL : gL ρ A L) (hS : gS ρ B S) (ht : hTy h) (ha : aUn x A B = some r') : gRes W ρ h r' (zUn g L S h) := by
  unfold aUn at ha
  split at ha
  · rename_i a B'
    obtain ⟨v1, s1, rfl, hv1, hT⟩ := gS_cons hS
    obtain ⟨v, rfl, hv⟩ := gV_i hv1
    exact gPu_i (gTop hx (rIn_i _)) hL hT ht ha
  · cases ha
theorem gLdi {k : Nat} (hx : gX ρ x h) (hL : gL ρ A L) (hS : gS ρ B S) (ht : hTy h) (ha : aLd false x A k B = some r') : gRes W ρ h r' (zLdi L k S h) := by
  unfold aLd at ha
  split at ha
  · rename_i l a hk
    cases l with
    | true => cases ha
    | false =>
      cases ha
      obtain ⟨v, hv, hg⟩ := gL_at hL hk
      obtain ⟨u, rfl, hu⟩ := gV_i hg
      unfold zLdi
      rw [hv]
      exact gSt hx hL ⟨hu, hS⟩ ht
  · cases ha
theorem gLdl {k : Nat} (hx : gX ρ x h) (hL : gL ρ A L) (hS : gS ρ B S) (ht : hTy h) (ha : aLd true x A k B = some r') : gRes W ρ h r' (zLdl L k S h) := by
  unfold aLd at ha
  split at ha
  · rename_i l a hk
    cases l with
    | false => cases ha
    | true =>
      cases ha
      obtain ⟨v, hv, hg⟩ := gL_at hL hk
      obtain ⟨u, rfl, hu⟩ := gV_l hg
      unfold zLdl
      rw [hv]
      exact gSt hx hL ⟨hu, hS⟩ ht
  · cases ha
theorem gLda {k : Nat} (hx : gX ρ x h) (hL : gL ρ A L) (hS : gS ρ B S) (ht : hTy h) (ha : aLda x A k B = some r') : gRes W ρ h r' (zLda L k S h) := by
  unfold aLda at ha
  split at ha
  · rename_i q hk
    cases ha
    obtain ⟨v, hv, hg⟩ := gL_at hL hk
    have e := gV_r hg
    subst e
    unfold zLda
    rw [hv]
    exact gSt hx hL ⟨rfl, hS⟩ ht
  · cases ha
theorem zlt {a b : Nat} (h : a < b) : Nat.blt a b = true := Nat.ble_eq_true_of_le h
theorem gSti {k : Nat} (hx : gX ρ x h) (hL : gL ρ A L) (hS : gS ρ B S) (ht : hTy h) (ha : aSti false x A k B = some r') : gRes W ρ h r' (zSti L k S h) := by
  unfold aSti at ha
  split at ha
  · rename_i l a B'
    cases l with
    | true => cases ha
    | false =>
      dsimp only [cond, BEq.beq] at ha
      cases hb : Nat.blt k A.length with
      | false => rw [hb] at ha; cases ha
      | true =>
        rw [hb] at ha
        cases ha
        obtain ⟨v1, s1, rfl, hv1, hT⟩ := gS_cons hS
        obtain ⟨v, rfl, hv⟩ := gV_i hv1
        unfold zSti
        dsimp only
        rw [← gL_len hL, hb]
        exact gSt hx (gL_st1 hL hv1) hT ht
  · cases ha
theorem gStl {k : Nat} (hx : gX ρ x h) (hL : gL ρ A L) (hS : gS ρ B S) (ht : hTy h) (ha : aSti true x A k B = some r') : gRes W ρ h r' (zStl L k S h) := by
  unfold aSti at ha
  split at ha
  · rename_i l a B'
    cases l with
    | false => cases ha
    | true =>
      dsimp only [cond, BEq.beq] at ha
      cases hb : Nat.blt (k + 1) A.length with
      | false => rw [hb] at ha; cases ha
      | true =>
        rw [hb] at ha
        cases ha
        obtain ⟨v1, s1, rfl, hv1, hT⟩ := gS_cons hS
        obtain ⟨v, rfl, hv⟩ := gV_l hv1
        unfold zStl
        dsimp only
        rw [← gL_len hL, hb]
        exact gSt hx (gL_st2 hL hv1) hT ht
  · cases ha
theorem gSta {k : Nat} (hx : gX ρ x h) (hL : gL ρ A L) (hS : gS ρ B S) (ht : hTy h) (ha : aSta x A k B = some r') : gRes W ρ h r' (zSta L k S h) := by
  unfold aSta at ha
  split at ha
  · rename_i q B'
    cases hb : Nat.blt k A.length with
    | false => rw [hb] at ha; cases ha
    | true =>
      rw [hb] at ha
      cases ha
      obtain ⟨v1, s1, rfl, hv1, hT⟩ := gS_cons hS
      have e := gV_r hv1
      subst e
      unfold zSta
      dsimp only
      rw [← gL_len hL, hb]
      exact gSt hx (gL_st1 hL hv1) hT ht
  · cases ha
theorem i32_ofInt {n : Int} (h : iOk n n = true) : (Int32.ofInt n).toInt = n := by
  have h2 := rOk_i.mp (show rOk false n n = true from h)
  exact Int32.toInt_ofInt_of_le (by omega) (by omega)
theorem gInc {k : Nat} {n : Int} (hx : gX ρ x h) (hL : gL ρ A L) (hS : gS ρ B S) (ht : hTy h) (ha : aInc x A k n B = some r') : gRes W ρ h r' (zInc L k n S h) := by
  unfold aInc at ha
  split at ha
  · rename_i a hk
    cases hn : iOk n n with
    | false => rw [hn] at ha; cases ha
    | true =>
      rw [hn] at ha
      dsimp only [cond] at ha
      have en := i32_ofInt hn
      obtain ⟨v, hv, hg⟩ := gL_at hL hk
      obtain ⟨u, rfl, hu⟩ := gV_i hg
      have bu := gBd hx hu
      unfold zInc
      rw [hv]
      dsimp only
      cases hr : iOk (aLo x a + n) (aHi x a + n) with
      | true =>
        rw [hr] at ha
        cases ha
        have h2 := rOk_i.mp (show rOk false (aLo x a + n) (aHi x a + n) = true from hr)
        have e : (u + Int32.ofInt n).toInt = u.toInt + n := by
          rw [Jvm.Kit.i32_add (by rw [en]; omega) (by rw [en]; omega), en]
        refine gSt hx (gL_st1 hL ?_) hS ht
        show gI ρ (a.1, a.2 + n) (u + Int32.ofInt n).toInt
        rw [e]
        exact gI_off hu
      | false =>
        rw [hr] at ha
        cases ha
        obtain ⟨ρ', hp, hx', hi⟩ := gTop (w := (u + Int32.ofInt n).toInt) hx (rIn_i _)
        exact ⟨_, _, h, ρ', rfl, hp, hx', gL_st1 (gL_mono hp hL) hi, gS_mono hp hS, ht, hW.rf⟩
  · cases ha
end GN

theorem i8_ofInt {n : Int} (h1 : -128 ≤ n) (h2 : n ≤ 127) : (Int8.ofInt n).toInt32.toInt = n := by
  rw [Int8.toInt_toInt32]
  exact Int8.toInt_ofInt_of_le (by omega) (by omega)
theorem i16_ofInt {n : Int} (h1 : -32768 ≤ n) (h2 : n ≤ 32767) : (Int16.ofInt n).toInt32.toInt = n := by
  rw [Int16.toInt_toInt32]
  exact Int16.toInt_ofInt_of_le (by omega) (by omega)
section GA
variable {W : List (Nat × Nat × Nat)} {ρ : List Int} {x : aX} {h : zH} {A : List (Option aV)} {B : List aV} {L : zLo} {S : List Value} {r' : aX × List (Option aV) × List aV} {o : Nat}
theorem gConst_i {n : Int} {u : Int32} (hx : gX ρ x h) (e : u.toInt = n) : gOut ρ h (aConst x n) u.toInt := by rw [e]; exact gConst hx
theorem gConst_l {n : Int} {u : Int64} (hx : gX ρ x h) (e : u.toInt = n) : gOut ρ h (aConst x n) u.toInt := by rw [e]; exact gConst hx
theorem gAdd_i (hx : gX ρ x h) (a b : aA) (u v : Int32) (ha : gI ρ a u.toInt) (hb : gI ρ b v.toInt) : gOut ρ h (aAdd false x a b) (u + v).toInt :=
  gAdd hx ha hb (rIn_i _) (fun q => by have := rOk_i.mp q; exact Jvm.Kit.i32_add (by omega) (by omega))
theorem gSub_i (hx : gX ρ x h) (a b : aA) (u v : Int32) (ha : gI ρ a u.toInt) (hb : gI ρ b v.toInt) : gOut ρ h (aSub false x a b) (u - v).toInt :=
  gSub hx ha hb (rIn_i _) (fun q => by have := rOk_i.mp q; exact Jvm.Kit.i32_sub (by omega) (by omega))
theorem gMul_i (hx : gX ρ x h) (a b : aA) (u v : Int32) (ha : gI ρ a u.toInt) (hb : gI ρ b v.toInt) : gOut ρ h (aMul false x a b) (u * v).toInt :=
  gMul hx ha hb (rIn_i _) (fun q => by have := rOk_i.mp q; exact Jvm.Kit.i32_mul (by omega) (by omega))
theorem gAdd_l (hx : gX ρ x h) (a b : aA) (u v : Int64) (ha : gI ρ a u.toInt) (hb : gI ρ b v.toInt) : gOut ρ h (aAdd true x a b) (u + v).toInt :=
  gAdd hx ha hb (rIn_l _) (fun q => by have := rOk_l.mp q; exact Jvm.Kit.i64_add (by omega) (by omega))
theorem gSub_l (hx : gX ρ x h) (a b : aA) (u v : Int64) (ha : gI ρ a u.toInt) (hb : gI ρ b v.toInt) : gOut ρ h (aSub true x a b) (u - v).toInt :=
  gSub hx ha hb (rIn_l _) (fun q => by have := rOk_l.mp q; exact Jvm.Kit.i64_sub (by omega) (by omega))
theorem gMul_l (hx : gX ρ x h) (a b : aA) (u v : Int64) (ha : gI ρ a u.toInt) (hb : gI ρ b v.toInt) : gOut ρ h (aMul true x a b) (u * v).toInt :=
  gMul hx ha hb (rIn_l _) (fun q => by have := rOk_l.mp q; exact Jvm.Kit.i64_mul (by omega) (by omega))
theorem gDiv_i (hx : gX ρ x h) (a b : aA) (u v : Int32) (p : aX × aA) (ha : gI ρ a u.toInt) (hb : gI ρ b v.toInt) (hp : aDiv false x a b = some p) : v.toInt ≠ 0 ∧ gOut ρ h p (u / v).toInt :=
  gDiv hx ha hb (rIn_i _) (fun h1 h2 => by rw [Jvm.Kit.i32_div (by omega), Int.tdiv_eq_ediv_of_nonneg h1]) hp
theorem gRem_i (hx : gX ρ x h) (a b : aA) (u v : Int32) (p : aX × aA) (ha : gI ρ a u.toInt) (hb : gI ρ b v.toInt) (hp : aRem false x a b = some p) : v.toInt ≠ 0 ∧ gOut ρ h p (u - u / v * v).toInt :=
  gRem hx ha hb (rIn_i _) (rem_toInt u v) hp
theorem gDiv_l (hx : gX ρ x h) (a b : aA) (u v : Int64) (p : aX × aA) (ha : gI ρ a u.toInt) (hb : gI ρ b v.toInt) (hp : aDiv true x a b = some p) : v.toInt ≠ 0 ∧ gOut ρ h p (u / v).toInt :=
  gDiv hx ha hb (rIn_l _) (fun h1 h2 => by rw [Jvm.Kit.i64_div (by omega), Int.tdiv_eq_ediv_of_nonneg h1]) hp
theorem gRem_l (hx : gX ρ x h) (a b : aA) (u v : Int64) (p : aX × aA) (ha : gI ρ a u.toInt) (hb : gI ρ b v.toInt) (hp : aRem true x a b = some p) : v.toInt ≠ 0 ∧ gOut ρ h p (u - u / v * v).toInt :=
  gRem hx ha hb (rIn_l _) (Jvm.Kit.i64_rem u v) hp
theorem bif_some' {α : Type} {c : Bool} {a : Option α} {r : α} (h : (bif c then a else none) = some r) : c = true ∧ a = some r := by
  cases c with
  | true => exact ⟨rfl, h⟩
  | false => cases h
set_option maxHeartbeats 2000000 in
theorem gStepI {i : Instr} (hx : gX ρ x h) (hL : gL ρ A L) (hS : gS ρ B S) (ht : hTy h) (ha : aI W o i x A B = some r') : gRes W ρ h r' (zI none o i L S h) := by
  unfold aI at ha
  split at ha
  · obtain ⟨hc, ha⟩ := bif_some' ha
    exact gPu_i (gConst_i hx (i32_ofInt hc)) hL hS ht ha
  · obtain ⟨hc, ha⟩ := bif_some' ha
    simp only [Bool.and_eq_true, decide_eq_true_eq] at hc
    exact gPu_i (gConst_i hx (i8_ofInt hc.1 hc.2)) hL hS ht ha
  · obtain ⟨hc, ha⟩ := bif_some' ha
    simp only [Bool.and_eq_true, decide_eq_true_eq] at hc
    exact gPu_i (gConst_i hx (i16_ofInt hc.1 hc.2)) hL hS ht ha
  · rename_i n
    refine gPu_l (gConst_l hx ?_) hL hS ht ha
    have hn := n.isLt
    exact Int64.toInt_ofNat_of_lt (by omega)
  · rename_i k
    show gRes W ρ h r' (match zFind k (zKT.getD o []) with
      | some (v, _) => some (L, .int v :: S, h)
      | none => none)
    split at ha
    · rename_i v pos hf
      rw [hf]
      exact gPu_i (gConst_i hx rfl) hL hS ht ha
    · cases ha
  · rename_i k
    show gRes W ρ h r' (match zFind k (zKT.getD o []) with
      | some (v, _) => some (L, .int v :: S, h)
      | none => none)
    split at ha
    · rename_i v pos hf
      rw [hf]
      exact gPu_i (gConst_i hx rfl) hL hS ht ha
    · cases ha
  · rename_i k
    show gRes W ρ h r' (match zFind k (zJT.getD o []) with
      | some (v, _) => some (L, .long v :: S, h)
      | none => none)
    split at ha
    · rename_i v pos hf
      rw [hf]
      exact gPu_l (gConst_l hx rfl) hL hS ht ha
    · cases ha
  · exact gLdi hx hL hS ht ha
  · exact gLdi hx hL hS ht ha
  · exact gLdl hx hL hS ht ha
  · exact gLdl hx hL hS ht ha
  · exact gLda hx hL hS ht ha
  · exact gLda hx hL hS ht ha
  · exact gSti hx hL hS ht ha
  · exact gSti hx hL hS ht ha
  · exact gStl hx hL hS ht ha
  · exact gStl hx hL hS ht ha
  · exact gSta hx hL hS ht ha
  · exact gSta hx hL hS ht ha
  · exact gInc hx hL hS ht ha
  · exact gBin hx hL hS ht (gAdd_i hx) ha
  · exact gBin hx hL hS ht (gSub_i hx) ha
  · exact gBin hx hL hS ht (gMul_i hx) ha
  · exact gBiO hx hL hS ht (gDiv_i hx) ha
  · exact gBiO hx hL hS ht (gRem_i hx) ha
  · exact gBin (g := fun x y => x &&& y) hx hL hS ht (fun _ _ _ _ _ _ => gTop hx (rIn_i _)) ha
  · exact gBin (g := fun x y => x ||| y) hx hL hS ht (fun _ _ _ _ _ _ => gTop hx (rIn_i _)) ha
  · exact gBin (g := fun x y => x ^^^ y) hx hL hS ht (fun _ _ _ _ _ _ => gTop hx (rIn_i _)) ha
  · exact gBin (g := fun x y => x <<< (y &&& 31)) hx hL hS ht (fun _ _ _ _ _ _ => gTop hx (rIn_i _)) ha
  · exact gBin (g := fun x y => x >>> (y &&& 31)) hx hL hS ht (fun _ _ _ _ _ _ => gTop hx (rIn_i _)) ha
  · exact gBin (g := fun x y => (x.toUInt32 >>> (y.toUInt32 &&& Int32.toUInt32 31)).toInt32) hx hL hS ht (fun _ _ _ _ _ _ => gTop hx (rIn_i _)) ha
  · exact gUn hx hL hS ht ha
  · exact gUn hx hL hS ht ha
  · exact gUn hx hL hS ht ha
  · split at ha
    · cases ha
      obtain ⟨v1, s1, rfl, hv1, hT⟩ := gS_cons hS
      obtain ⟨v, rfl, hv⟩ := gV_i hv1
      refine gSt (L' := L) (S' := .long v.toInt64 :: s1) hx hL ⟨?_, hT⟩ ht
      show gI ρ _ v.toInt64.toInt
      rw [Jvm.Kit.i64_of_i32]
      exact hv
    · cases ha
  · split at ha
    · rename_i a B'
      obtain ⟨v1, s1, rfl, hv1, hT⟩ := gS_cons hS
      obtain ⟨v, rfl, hv⟩ := gV_l hv1
      cases hc : (iOk (aLo x a) (aHi x a) && aHas x a) with
      | true =>
        rw [hc] at ha
        cases ha
        simp only [Bool.and_eq_true] at hc
        have h2 := rOk_i.mp (show rOk false (aLo x a) (aHi x a) = true from hc.1)
        have bv := gBd hx hv
        refine gSt (L' := L) (S' := .int v.toInt32 :: s1) hx hL ⟨?_, hT⟩ ht
        show gI ρ _ v.toInt32.toInt
        rw [Jvm.Kit.i32_of_i64 (by omega) (by omega)]
        exact hv
      | false =>
        rw [hc] at ha
        exact gPu_i (u := v.toInt32) (gTop hx (rIn_i _)) hL hT ht ha
    · cases ha
  · split at ha
    · obtain ⟨v1, s1, rfl, hv1, hT⟩ := gS_cons hS
      obtain ⟨v, rfl, hv⟩ := gV_l hv1
      exact gPu_l (u := -v) (gTopL hx (rIn_l _)) hL hT ht ha
    · cases ha
  · split at ha
    · obtain ⟨v1, s1, rfl, hv1, hT⟩ := gS_cons hS
      obtain ⟨v2, s2, rfl, hv2, hU⟩ := gS_cons hT
      obtain ⟨v, rfl, hv⟩ := gV_l hv1
      obtain ⟨u, rfl, hu⟩ := gV_l hv2
      exact gPu_i (u := lg_cmp u v) (gTop hx (rIn_i _)) hL hU ht ha
    · cases ha
  · exact gLin hx hL hS ht (gAdd_l hx) ha
  · exact gLin hx hL hS ht (gSub_l hx) ha
  · exact gLin hx hL hS ht (gMul_l hx) ha
  · exact gLiO hx hL hS ht (gDiv_l hx) ha
  · exact gLiO hx hL hS ht (gRem_l hx) ha
  · split at ha
    · obtain ⟨hc, ha⟩ := bif_some' ha
      cases ha
      obtain ⟨v1, s1, rfl, hv1, hT⟩ := gS_cons hS
      show gRes W ρ h _ (bif Nat.beq v1.category 1 then some (L, v1 :: v1 :: s1, h) else none)
      rw [gV_cat hv1 hc]
      exact gSt hx hL ⟨hv1, hv1, hT⟩ ht
    · cases ha
  · split at ha
    · obtain ⟨hc, ha⟩ := bif_some' ha
      cases ha
      simp only [Bool.and_eq_true] at hc
      obtain ⟨v1, s1, rfl, hv1, hT⟩ := gS_cons hS
      obtain ⟨v2, s2, rfl, hv2, hU⟩ := gS_cons hT
      show gRes W ρ h _ (bif Nat.beq v1.category 1 && Nat.beq v2.category 1 then some (L, v1 :: v2 :: v1 :: v2 :: s2, h) else none)
      rw [gV_cat hv1 hc.1, gV_cat hv2 hc.2]
      exact gSt hx hL ⟨hv1, hv2, hv1, hv2, hU⟩ ht
    · cases ha
  · split at ha
    · obtain ⟨hc, ha⟩ := bif_some' ha
      cases ha
      obtain ⟨v1, s1, rfl, hv1, hT⟩ := gS_cons hS
      show gRes W ρ h _ (bif Nat.beq v1.category 1 then some (L, s1, h) else none)
      rw [gV_cat hv1 hc]
      exact gSt hx hL hT ht
    · cases ha
  · exact gGetF hx hL hS ht ha
  · exact gPutF hx hL hS ht ha
  · rename_i k
    show gRes W ρ h r' (match zFind k (zGT.getD o []) with
      | some (j, _) => some (L, .ref (900 + j) :: S, h)
      | none => none)
    split at ha
    · rename_i j pos hf
      rw [hf]
      cases ha
      exact gSt hx hL ⟨rfl, hS⟩ ht
    · cases ha
  · exact gIal hx hL hS ht ha
  · split at ha
    · rename_i q B'
      obtain ⟨v1, s1, rfl, hv1, hT⟩ := gS_cons hS
      have e := gV_r hv1
      subst e
      split at ha
      · rename_i n hl
        obtain ⟨hc, ha⟩ := bif_some' ha
        have h2 := rOk_i.mp (show rOk false (n : Int) (n : Int) = true from hc)
        show gRes W ρ h r' (zAle none L (.ref q :: s1) h)
        unfold zAle zRow
        dsimp only
        rw [hl]
        refine gPu_i (u := Int32.ofNat n) (gConst_i hx ?_) hL hT ht ha
        exact Int32.toInt_ofNat_of_lt (by omega)
      · cases ha
    · cases ha
  · exact gIas hx hL hS ht ha
  · exact gLal hx hL hS ht ha
  · exact gLas hx hL hS ht ha
  · cases ha
end GA

section GQ
variable {ρ : List Int} {x : aX} {h h' : zH} {A : List (Option aV)} {B : List aV} {L : zLo} {S : List Value}
theorem gS_take : ∀ (n : Nat) {B : List aV} {S : List Value}, gS ρ B S → gS ρ (B.take n) (S.take n)
  | 0, _, _, _ => by simp [gS]
  | n + 1, [], [], _ => trivial
  | n + 1, [], _ :: _, hs => hs.elim
  | n + 1, _ :: _, [], hs => hs.elim
  | n + 1, a :: B, v :: S, hs => ⟨hs.1, gS_take n hs.2⟩
theorem gS_drop : ∀ (n : Nat) {B : List aV} {S : List Value}, gS ρ B S → gS ρ (B.drop n) (S.drop n)
  | 0, _, _, hs => hs
  | n + 1, [], [], _ => trivial
  | n + 1, [], _ :: _, hs => hs.elim
  | n + 1, _ :: _, [], hs => hs.elim
  | n + 1, a :: B, v :: S, hs => gS_drop n (B := B) (S := S) hs.2
theorem gS_app : ∀ {B : List aV} {S : List Value} {B' : List aV} {S' : List Value}, gS ρ B S → gS ρ B' S' → gS ρ (B ++ B') (S ++ S')
  | [], [], _, _, _, h2 => h2
  | [], _ :: _, _, _, hs, _ => hs.elim
  | _ :: _, [], _, _, hs, _ => hs.elim
  | a :: B, v :: S, _, _, hs, h2 => ⟨hs.1, gS_app hs.2 h2⟩
theorem gS_rev : ∀ {B : List aV} {S : List Value}, gS ρ B S → gS ρ B.reverse S.reverse
  | [], [], _ => trivial
  | [], _ :: _, hs => hs.elim
  | _ :: _, [], hs => hs.elim
  | a :: B, v :: S, hs => by
    rw [List.reverse_cons, List.reverse_cons]
    exact gS_app (gS_rev hs.2) ⟨hs.1, trivial⟩
theorem gV_cat2 {a : aV} {v : Value} (hv : gV ρ a v) : v.category = (bif aCat1 a then 1 else 2) := by
  rcases a with ⟨l, a⟩ | q
  · cases l with
    | false => obtain ⟨u, rfl, -⟩ := gV_i hv; rfl
    | true => obtain ⟨u, rfl, -⟩ := gV_l hv; rfl
  · have e := gV_r hv
    subst e
    rfl
theorem gS_cat : ∀ {B : List aV} {S : List Value}, gS ρ B S → aCatS B = zCat S
  | [], [], _ => rfl
  | [], _ :: _, hs => hs.elim
  | _ :: _, [], hs => hs.elim
  | a :: B, v :: S, hs => by
    have ih := gS_cat hs.2
    unfold aCatS zCat
    rw [List.map_cons, List.sum_cons, gV_cat2 hs.1, ih]
    rfl
theorem zSl_cat : ∀ S : List Value, (zSl S).length = zCat S
  | [] => rfl
  | v :: S => by
    have ih := zSl_cat S
    unfold zSl zCat at ih ⊢
    rw [List.flatMap_cons, List.length_append, List.map_cons, List.sum_cons, ih]
    by_cases hc : v.category = 2
    · rw [if_pos hc, hc]; rfl
    · rw [if_neg hc]
      have : v.category = 1 := by rcases lv_cat v with h1 | h1; exact h1; exact absurd h1 hc
      rw [this]; rfl
theorem gRecv {o : Nat} (hs : gS ρ B S) (hr : aRecv o B = true) : zRecv o S = true := by
  unfold aRecv at hr
  split at hr
  · rename_i q B'
    obtain ⟨v1, s1, rfl, hv1, hT⟩ := gS_cons hs
    have e := gV_r hv1
    subst e
    exact hr
  · cases hr
def aSl (as : List aV) : List (Option aV) := as.flatMap fun v => match v with
  | .inl (true, a) => [some (.inl (true, a)), none]
  | v => [some v]
theorem gL_app : ∀ {A : List (Option aV)} {L : zLo} {A' : List (Option aV)} {L' : zLo}, gL ρ A L → gL ρ A' L' → gL ρ (A ++ A') (L ++ L')
  | [], [], _, _, _, h2 => h2
  | [], _ :: _, _, _, hs, _ => hs.elim
  | none :: A, [], _, _, hs, _ => hs.elim
  | none :: A, _ :: L, _, _, hs, h2 => gL_app (A := A) (L := L) hs h2
  | some a :: A, [], _, _, hs, _ => hs.elim
  | some a :: A, none :: L, _, _, hs, _ => hs.elim
  | some a :: A, some v :: L, _, _, hs, h2 => ⟨hs.1, gL_app (A := A) (L := L) hs.2 h2⟩
theorem gL_sl : ∀ {B : List aV} {S : List Value}, gS ρ B S → gL ρ (aSl B) (zSl S)
  | [], [], _ => trivial
  | [], _ :: _, hs => hs.elim
  | _ :: _, [], hs => hs.elim
  | a :: B, v :: S, hs => by
    have ih := gL_sl hs.2
    unfold aSl zSl at ih ⊢
    rw [List.flatMap_cons, List.flatMap_cons]
    refine gL_app ?_ ih
    rcases a with ⟨l, a⟩ | q
    · cases l with
      | false =>
        obtain ⟨u, rfl, hu⟩ := gV_i hs.1
        exact ⟨hu, trivial⟩
      | true =>
        obtain ⟨u, rfl, hu⟩ := gV_l hs.1
        exact ⟨hu, trivial⟩
    · have e := gV_r hs.1
      subst e
      exact ⟨rfl, trivial⟩
theorem gL_rep (n : Nat) : gL ρ (List.replicate n none) (List.replicate n none) := by
  induction n with
  | zero => exact trivial
  | succ n ih => exact ih
theorem gL_ent {n : Nat} (hs : gS ρ B S) : gL ρ (aEnt B n) (zEnt S n) := by
  have h1 := gL_sl hs
  have h2 := gL_len h1
  show gL ρ (aSl B ++ List.replicate (n - (aSl B).length) none) (zSl S ++ List.replicate (n - (zSl S).length) none)
  rw [h2]
  exact gL_app h1 (gL_rep _)
theorem gFarAll (hx : gX ρ x h) {Wl : List (Nat × Nat × Nat)} {e : Nat × (Nat ⊕ aA) × aA} (hf : (Wl.all fun w => aFar x w.1 w.2.1 w.2.2 e) = true) (hm : gMe ρ h e) (hw : hW Wl h h') : gMe ρ h' e := by
  have hf := List.all_eq_true.mp hf
  unfold gMe at hm ⊢
  split at hm
  · rename_i s hs
    rw [hw e.1 s]
    · exact hm
    · rintro w hw1 ⟨h1, h2, h3⟩
      have h4 := hf w hw1
      unfold aFar at h4
      rw [hs] at h4
      simp only [Bool.or_eq_true, Bool.not_eq_true', decide_eq_true_eq] at h4
      rcases h4 with h4 | h4
      · rw [h1, nbeq] at h4; cases h4
      · omega
  · rename_i j hj
    obtain ⟨u, g1, g2, g3⟩ := hm
    refine ⟨u, g1, g2, ?_⟩
    rw [hw e.1 u.toNat]
    · exact g3
    · rintro w hw1 ⟨h1, h2, h3⟩
      have h4 := hf w hw1
      have bu := gBd hx g1
      unfold aFar at h4
      rw [hj] at h4
      simp only [Bool.or_eq_true, Bool.not_eq_true', decide_eq_true_eq] at h4
      rcases h4 with h4 | h4
      · rw [h1, nbeq] at h4; cases h4
      · omega
theorem hW_in {W Wl : List (Nat × Nat × Nat)} (hc : (Wl.all fun w => wIn W w.1 w.2.1 w.2.2) = true) (hw : hW Wl h h') : hW W h h' := by
  intro q j hn
  refine hw q j (fun w hw1 hw2 => ?_)
  obtain ⟨w', hw3, hw4⟩ := wIn_ok (List.all_eq_true.mp hc w hw1) hw2.2.1 hw2.2.2
  exact hn w' hw3 ⟨hw4.1.trans hw2.1, hw4.2⟩
theorem aSum_ok {T : List (Nat × aY)} {M d : Nat} {as : List aV} {y : aY} (ha : aSum T M d x as = some y) : (M, y) ∈ T ∧ y.2.2.2.2 < d ∧ aIns x as y.1 = true ∧ aCells x y.2.1 = true := by
  unfold aSum at ha
  split at ha
  · rename_i e he
    cases ha
    have h1 := List.find?_some he
    have h2 := List.mem_of_find?_eq_some he
    simp only [Bool.and_eq_true] at h1
    have e1 := Nat.eq_of_beq_eq_true h1.1.1.1
    rw [← e1]
    exact ⟨h2, zblt h1.1.1.2, h1.1.2, h1.2⟩
  · cases ha
theorem zRet_none {ret : Option FieldType} {i : Instr} {S : List Value} (hi : aIsRet i = false) : zRet ret i S = none := by
  unfold zRet
  split
  · cases hi
  · cases hi
  · cases hi
  · rfl
theorem gCopy {W : List (Nat × Nat × Nat)} {M pc : Nat} {r : List aF} {l : List aS} (hx : gX ρ x h) (hL : gL ρ A L) (hS : gS ρ B S) (ht : hTy h) (ha : aCopy W x M pc A B r = some l) : ∃ (S' : List Value) (h' : zH) (x' : aX) (B' : List aV), zCopy S h = some (S', h') ∧ (x', (M, pc + 3, A, B') :: r) ∈ l ∧ gX ρ x' h' ∧ gS ρ B' S' ∧ hTy h' ∧ hW W h h' := by
  unfold aCopy at ha
  split at ha
  · rename_i n dp q1 sp q0 s
    obtain ⟨v1, s1, rfl, hv1, hT1⟩ := gS_cons hS
    obtain ⟨v2, s2, rfl, hv2, hT2⟩ := gS_cons hT1
    obtain ⟨v3, s3, rfl, hv3, hT3⟩ := gS_cons hT2
    obtain ⟨v4, s4, rfl, hv4, hT4⟩ := gS_cons hT3
    obtain ⟨v5, s5, rfl, hv5, hT5⟩ := gS_cons hT4
    obtain ⟨un, rfl, hn⟩ := gV_i hv1
    obtain ⟨ud, rfl, hd⟩ := gV_i hv2
    have e1 := gV_r hv3
    subst e1
    obtain ⟨us, rfl, hsp⟩ := gV_i hv4
    have e2 := gV_r hv5
    subst e2
    have b1 := gBd hx hn
    have b2 := gBd hx hd
    have b3 := gBd hx hsp
    split at ha
    · rename_i n0 n1 hl0 hl1
      obtain ⟨hc, hl⟩ := bif_some ha
      subst hl
      simp only [Bool.and_eq_true, decide_eq_true_eq, Bool.not_eq_true'] at hc
      obtain ⟨⟨⟨⟨⟨⟨⟨⟨⟨⟨⟨c1, c2⟩, c3⟩, c4⟩, c5⟩, -⟩, -⟩, -⟩, c6⟩, c7⟩, c8⟩, c9⟩ := hc
      have hcat : ¬ 8 < zCat s5 := by
        rw [← gS_cat hT5]
        intro z
        rw [zlt z] at c6
        cases c6
      have nn : ∀ w : Int32, 0 ≤ w.toInt → ¬ w < 0 := fun w hw z => by
        rw [Int32.lt_iff_toInt_lt, Int32.toInt_zero] at z
        omega
      have k1 : us.toNatClampNeg = us.toInt.toNat := rfl
      have k2 : ud.toNatClampNeg = ud.toInt.toNat := rfl
      have k3 : un.toNatClampNeg = un.toInt.toNat := rfl
      refine ⟨s5, (va_up h.1 q1 (va_cpy (h.1 q0) (h.1 q1) us.toNatClampNeg ud.toNatClampNeg un.toNatClampNeg), h.2), _, s, ?_, List.mem_singleton.mpr rfl, ?_, hT5, ?_, ?_⟩
      · unfold zCopy
        dsimp only
        rw [hl0, hl1]
        dsimp only
        rw [if_neg]
        rintro (z | z | z | z | z | z)
        · exact nn us (by omega) z
        · exact nn ud (by omega) z
        · exact nn un (by omega) z
        · omega
        · omega
        · exact hcat z
      · refine gKeep hx _ (fun e he h1 h2 => ?_)
        have hne : e.1 ≠ q1 := fun z => by
          rw [z, nbeq] at h1
          cases h1
        unfold gMe at h2 ⊢
        simp only [va_up, if_neg hne]
        exact h2
      · intro q j
        by_cases hq : q = q1
        · subst hq
          rw [tFlat_ty c8]
          have := rOk_i.mp (rIn_i ((va_up h.1 q (va_cpy (h.1 q0) (h.1 q) us.toNatClampNeg ud.toNatClampNeg un.toNatClampNeg)) q j))
          unfold iMin iMax
          exact ⟨this.1, this.2⟩
        · have e : va_up h.1 q1 (va_cpy (h.1 q0) (h.1 q1) us.toNatClampNeg ud.toNatClampNeg un.toNatClampNeg) q = h.1 q := by simp [va_up, hq]
          show (tTy q j).1 ≤ (va_up h.1 q1 _ q j).toInt ∧ (va_up h.1 q1 _ q j).toInt ≤ (tTy q j).2
          rw [e]
          exact ht q j
      · intro q j hnw
        show va_up h.1 q1 _ q j = h.1 q j
        by_cases hq : q = q1
        · subst hq
          unfold va_up
          rw [if_pos rfl]
          unfold va_cpy
          rw [if_neg]
          rintro ⟨z1, z2⟩
          obtain ⟨w, hw1, hw2⟩ := wIn_ok c9 (j := j) (Nat.zero_le _) (by omega)
          exact hnw w hw1 hw2
        · unfold va_up
          rw [if_neg hq]
    · cases ha
  · cases ha
end GQ

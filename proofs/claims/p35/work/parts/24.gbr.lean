/-! branches -/
def gWay (W : List (Nat × Nat × Nat)) (ρ : List Int) (h : zH) (M : Nat) (r : List aF) (l : List aS) (res : Option (Nat × zF)) : Prop :=
  ∃ (pc' : Nat) (L' : zLo) (S' : List Value) (h' : zH) (x' : aX) (A' : List (Option aV)) (B' : List aV) (ρ' : List Int), res = some (pc', L', S', h') ∧ (x', (M, pc', A', B') :: r) ∈ l ∧ gPre ρ ρ' ∧ gX ρ' x' h' ∧ gL ρ' A' L' ∧ gS ρ' B' S' ∧ hTy h' ∧ hW W h h'
theorem aBoth_ok {a b : aN} {l : List aS} (h : aBoth a b = some l) : ∃ la lb, a = some la ∧ b = some lb ∧ l = la ++ lb := by
  unfold aBoth at h
  split at h
  · cases h; exact ⟨_, _, rfl, rfl, rfl⟩
  · cases h
theorem aWay_ok {y : Option aX} {t : Option Nat} {M : Nat} {A : List (Option aV)} {B : List aV} {r : List aF} {l : List aS} (h : aWay y t M A B r = some l) : ∃ t', t = some t' ∧ ∀ z, y = some z → (z, (M, t', A, B) :: r) ∈ l := by
  unfold aWay at h
  split at h
  · cases h
  · rename_i t'
    refine ⟨t', rfl, fun z hz => ?_⟩
    rw [hz] at h
    cases h
    exact List.mem_singleton.mpr rfl
theorem zc1_eq (c : Jvm.ClassFile.Cond) (u : Int32) : zc1 c u = zc2 c u 0 := by cases c <;> rfl
theorem zc2_neg (c : Jvm.ClassFile.Cond) (u v : Int32) : zc2 (aNeg c) u v = !zc2 c u v := by
  cases c <;> simp only [zc2, aNeg, Bool.not_not]
  · by_cases h : u < v
    · have h2 : ¬ v ≤ u := by rw [Int32.le_iff_toInt_le]; rw [Int32.lt_iff_toInt_lt] at h; omega
      rw [decide_eq_false h2, decide_eq_true h]; rfl
    · have h2 : v ≤ u := by rw [Int32.le_iff_toInt_le]; rw [Int32.lt_iff_toInt_lt] at h; omega
      rw [decide_eq_true h2, decide_eq_false h]; rfl
  · by_cases h : v ≤ u
    · have h2 : ¬ u < v := by rw [Int32.lt_iff_toInt_lt]; rw [Int32.le_iff_toInt_le] at h; omega
      rw [decide_eq_false h2, decide_eq_true h]; rfl
    · have h2 : u < v := by rw [Int32.lt_iff_toInt_lt]; rw [Int32.le_iff_toInt_le] at h; omega
      rw [decide_eq_true h2, decide_eq_false h]; rfl
  · by_cases h : v < u
    · have h2 : ¬ u ≤ v := by rw [Int32.le_iff_toInt_le]; rw [Int32.lt_iff_toInt_lt] at h; omega
      rw [decide_eq_false h2, decide_eq_true h]; rfl
    · have h2 : u ≤ v := by rw [Int32.le_iff_toInt_le]; rw [Int32.lt_iff_toInt_lt] at h; omega
      rw [decide_eq_true h2, decide_eq_false h]; rfl
  · by_cases h : u ≤ v
    · have h2 : ¬ v < u := by rw [Int32.lt_iff_toInt_lt]; rw [Int32.le_iff_toInt_le] at h; omega
      rw [decide_eq_false h2, decide_eq_true h]; rfl
    · have h2 : v < u := by rw [Int32.lt_iff_toInt_lt]; rw [Int32.le_iff_toInt_le] at h; omega
      rw [decide_eq_true h2, decide_eq_false h]; rfl
section GB
variable {W : List (Nat × Nat × Nat)} {ρ : List Int} {x : aX} {h : zH} {A : List (Option aV)} {B : List aV} {L : zLo} {S : List Value} {o M pc : Nat} {r : List aF} {l : List aS}
theorem gCnd {c : Jvm.ClassFile.Cond} {a b : aA} {u v : Int32} (hx : gX ρ x h) (ha : gI ρ a u.toInt) (hb : gI ρ b v.toInt) (hc : zc2 c u v = true) : ∃ y, aCnd c x a b = some y ∧ gX ρ y h := by
  cases c <;> simp only [zc2, decide_eq_true_eq, Bool.not_eq_true', decide_eq_false_iff_not] at hc
  · exact gEq hx ha hb (by rw [hc])
  · exact gNe hx ha hb (fun z => hc (Int32.toInt_inj.mp z))
  · exact gLt hx ha hb (Int32.lt_iff_toInt_lt.mp hc)
  · exact gLLe hx hb ha (Int32.le_iff_toInt_le.mp hc)
  · exact gLt hx hb ha (Int32.lt_iff_toInt_lt.mp hc)
  · exact gLLe hx ha hb (Int32.le_iff_toInt_le.mp hc)
theorem gIs {a : aA} {u k : Int} (hx : gX ρ x h) (ha : gI ρ a u) (hk : u = k) : ∃ y, aIs x a k = some y ∧ gX ρ y h := by
  obtain ⟨y, hy, hX⟩ := gGe (k := k) hx ha (by omega)
  obtain ⟨y2, hy2, hX2⟩ := gLe (k := k) hX ha (by omega)
  unfold aIs oBind
  rw [hy]
  exact ⟨y2, hy2, hX2⟩
theorem gWay_of {t : Nat} {y : aX} (hm : (y, (M, t, A, B) :: r) ∈ l) (hx : gX ρ y h) (hL : gL ρ A L) (hS : gS ρ B S) (ht : hTy h) {res : Option (Nat × zF)} (hr : res = some (t, L, S, h)) : gWay W ρ h M r l res :=
  ⟨t, L, S, h, y, A, B, ρ, hr, hm, gPre.rf, hx, hL, hS, ht, hW.rf⟩
theorem gTab {a : aA} {u : Int} (hx : gX ρ x h) (ha : gI ρ a u) : ∀ (os : List Int) (k : Int) (l : List aS) (off : Int), aTab x a M pc A B r k os = some l → k ≤ u → os[(u - k).toNat]? = some off → ∃ t y, zTgt pc off = some t ∧ (y, (M, t, A, B) :: r) ∈ l ∧ gX ρ y h
  | [], k, l, off, hl, h1, h2 => by simp at h2
  | o1 :: os, k, l, off, hl, h1, h2 => by
    unfold aTab at hl
    obtain ⟨la, lb, e1, e2, rfl⟩ := aBoth_ok hl
    by_cases hk : u = k
    · have e : (u - k).toNat = 0 := by omega
      rw [e] at h2
      cases h2
      obtain ⟨t, ht, hm⟩ := aWay_ok e1
      obtain ⟨y, hy, hX⟩ := gIs hx ha hk
      exact ⟨t, y, ht, List.mem_append_left _ (hm y hy), hX⟩
    · have e : (u - k).toNat = (u - (k + 1)).toNat + 1 := by omega
      rw [e] at h2
      obtain ⟨t, y, g1, g2, g3⟩ := gTab hx ha os (k + 1) lb off e2 (by omega) (by simpa using h2)
      exact ⟨t, y, g1, List.mem_append_right _ g2, g3⟩
theorem gLkp {a : aA} {u : Int} (hx : gX ρ x h) (ha : gI ρ a u) (d : Int) : ∀ (ps : List (Int × Int)) (l : List aS), aLkp x a M pc A B r ps = some l → (Op.lookupswitch.offset ps d u = d) ∨ ∃ t y, zTgt pc (Op.lookupswitch.offset ps d u) = some t ∧ (y, (M, t, A, B) :: r) ∈ l ∧ gX ρ y h
  | [], l, hl => Or.inl rfl
  | p :: ps, l, hl => by
    unfold aLkp at hl
    obtain ⟨la, lb, e1, e2, rfl⟩ := aBoth_ok hl
    rw [show p :: ps = (p.1, p.2) :: ps from rfl, Op.lookupswitch.offset_cons]
    by_cases hk : p.1 = u
    · rw [if_pos hk]
      obtain ⟨t, ht, hm⟩ := aWay_ok e1
      obtain ⟨y, hy, hX⟩ := gIs hx ha hk.symm
      exact Or.inr ⟨t, y, ht, List.mem_append_left _ (hm y hy), hX⟩
    · rw [if_neg hk]
      rcases gLkp hx ha d ps lb e2 with h1 | ⟨t, y, g1, g2, g3⟩
      · exact Or.inl h1
      · exact Or.inr ⟨t, y, g1, List.mem_append_right _ g2, g3⟩
theorem gPick {a : aA} {u : Int} (hx : gX ρ x h) (ha : gI ρ a u) : ∀ (ks : List Nat) (k : Int) (q : Nat), k ≤ u → ks[(u - k).toNat]? = some q → ∃ y, (y, (M, pc, A, .inr q :: B) :: r) ∈ aPick x a M pc A B r k ks ∧ gX ρ y h
  | [], k, q, h1, h2 => by simp at h2
  | q1 :: ks, k, q, h1, h2 => by
    unfold aPick
    by_cases hk : u = k
    · have e : (u - k).toNat = 0 := by omega
      rw [e] at h2
      cases h2
      obtain ⟨y, hy, hX⟩ := gIs hx ha hk
      rw [hy]
      exact ⟨y, List.mem_append_left _ (List.mem_singleton.mpr rfl), hX⟩
    · have e : (u - k).toNat = (u - (k + 1)).toNat + 1 := by omega
      rw [e] at h2
      obtain ⟨y, g2, g3⟩ := gPick hx ha ks (k + 1) q (by omega) (by simpa using h2)
      exact ⟨y, List.mem_append_right _ g2, g3⟩
theorem zGo_some {t : Option Nat} {t' : Nat} (h1 : t = some t') : zGo t L S h = some (t', L, S, h) := by rw [h1]; rfl
set_option maxHeartbeats 2000000 in
theorem gJ {i : Instr} (hx : gX ρ x h) (hL : gL ρ A L) (hS : gS ρ B S) (ht : hTy h) (ha : aJ W o i x M pc A B r = some l) : gWay W ρ h M r l (zS none o pc i L S h) := by
  unfold aJ at ha
  split at ha
  · obtain ⟨t, h1, hm⟩ := aWay_ok ha
    exact gWay_of (hm x rfl) hx hL hS ht (zGo_some h1)
  · rename_i c off
    split at ha
    · rename_i a B'
      obtain ⟨v1, s1, rfl, hv1, hT⟩ := gS_cons hS
      obtain ⟨u, rfl, hu⟩ := gV_i hv1
      dsimp only at ha
      split at ha
      · cases ha
      · rename_i t h1
        obtain ⟨la, lb, e1, e2, rfl⟩ := aBoth_ok ha
        obtain ⟨t1, f1, m1⟩ := aWay_ok e1
        obtain ⟨t2, f2, m2⟩ := aWay_ok e2
        cases f1
        cases f2
        obtain ⟨ρ', hp, hx', hz⟩ := gConst (w := 0) hx
        have hz : gI ρ' (aConst x 0).2 (0 : Int32).toInt := hz
        show gWay W ρ h M r _ (match zTgt pc off with
          | some t => some (bif zc1 c u then t else pc + 3, L, s1, h)
          | none => none)
        rw [h1, zc1_eq]
        dsimp only
        cases hc : zc2 c u 0 with
        | true =>
          obtain ⟨y, hy, hX⟩ := gCnd hx' (gI_mono hp hu) hz hc
          exact ⟨t, L, s1, h, y, A, B', ρ', rfl, List.mem_append_left _ (m1 y hy), hp, hX, gL_mono hp hL, gS_mono hp hT, ht, hW.rf⟩
        | false =>
          obtain ⟨y, hy, hX⟩ := gCnd (c := aNeg c) hx' (gI_mono hp hu) hz (by rw [zc2_neg, hc]; rfl)
          exact ⟨pc + 3, L, s1, h, y, A, B', ρ', rfl, List.mem_append_right _ (m2 y hy), hp, hX, gL_mono hp hL, gS_mono hp hT, ht, hW.rf⟩
    · cases ha
  · rename_i c off
    split at ha
    · rename_i b a B'
      obtain ⟨v1, s1, rfl, hv1, hT⟩ := gS_cons hS
      obtain ⟨v2, s2, rfl, hv2, hU⟩ := gS_cons hT
      obtain ⟨v, rfl, hv⟩ := gV_i hv1
      obtain ⟨u, rfl, hu⟩ := gV_i hv2
      split at ha
      · cases ha
      · rename_i t h1
        obtain ⟨la, lb, e1, e2, rfl⟩ := aBoth_ok ha
        obtain ⟨t1, f1, m1⟩ := aWay_ok e1
        obtain ⟨t2, f2, m2⟩ := aWay_ok e2
        cases f1
        cases f2
        show gWay W ρ h M r _ (match zTgt pc off with
          | some t => some (bif zc2 c u v then t else pc + 3, L, s2, h)
          | none => none)
        rw [h1]
        dsimp only
        cases hc : zc2 c u v with
        | true =>
          obtain ⟨y, hy, hX⟩ := gCnd hx hu hv hc
          exact ⟨t, L, s2, h, y, A, B', ρ, rfl, List.mem_append_left _ (m1 y hy), gPre.rf, hX, hL, hU, ht, hW.rf⟩
        | false =>
          obtain ⟨y, hy, hX⟩ := gCnd (c := aNeg c) hx hu hv (by rw [zc2_neg, hc]; rfl)
          exact ⟨pc + 3, L, s2, h, y, A, B', ρ, rfl, List.mem_append_right _ (m2 y hy), gPre.rf, hX, hL, hU, ht, hW.rf⟩
    · cases ha
  · rename_i d lo hi offs
    split at ha
    · rename_i a B'
      obtain ⟨v1, s1, rfl, hv1, hT⟩ := gS_cons hS
      obtain ⟨u, rfl, hu⟩ := gV_i hv1
      obtain ⟨hc, ha⟩ := bif_some' ha
      rw [decide_eq_true_eq] at hc
      obtain ⟨la, lb, e1, e2, rfl⟩ := aBoth_ok ha
      obtain ⟨lc, ld, e3, e4, rfl⟩ := aBoth_ok e2
      show gWay W ρ h M r _ (if u.toInt < lo ∨ hi < u.toInt then zGo (zTgt pc d) L s1 h else match offs[(u.toInt - lo).toNat]? with
        | some off => zGo (zTgt pc off) L s1 h
        | none => none)
      by_cases hr : u.toInt < lo ∨ hi < u.toInt
      · rw [if_pos hr]
        rcases hr with hr | hr
        · obtain ⟨t, f1, m1⟩ := aWay_ok e3
          obtain ⟨y, hy, hX⟩ := gLe (k := lo - 1) hx hu (by omega)
          exact gWay_of (List.mem_append_right _ (List.mem_append_left _ (m1 y hy))) hX hL hT ht (zGo_some f1)
        · obtain ⟨t, f1, m1⟩ := aWay_ok e4
          obtain ⟨y, hy, hX⟩ := gGe (k := hi + 1) hx hu (by omega)
          exact gWay_of (List.mem_append_right _ (List.mem_append_right _ (m1 y hy))) hX hL hT ht (zGo_some f1)
      · rw [if_neg hr]
        have hlt : (u.toInt - lo).toNat < offs.toList.length := by omega
        have he : offs[(u.toInt - lo).toNat]? = offs.toList[(u.toInt - lo).toNat]? := by rw [Array.getElem?_toList]
        rw [he]
        have h2 := List.getElem?_eq_getElem hlt
        obtain ⟨t, y, g1, g2, g3⟩ := gTab hx hu offs.toList lo la _ e1 (by omega) h2
        rw [h2]
        exact gWay_of (List.mem_append_left _ g2) g3 hL hT ht (zGo_some g1)
    · cases ha
  · rename_i d ps
    split at ha
    · rename_i a B'
      obtain ⟨v1, s1, rfl, hv1, hT⟩ := gS_cons hS
      obtain ⟨u, rfl, hu⟩ := gV_i hv1
      obtain ⟨hc, ha⟩ := bif_some' ha
      obtain ⟨la, lb, e1, e2, rfl⟩ := aBoth_ok ha
      obtain ⟨t, f1, m1⟩ := aWay_ok e2
      show gWay W ρ h M r _ (if (ps.toList.zip (ps.toList.drop 1)).all (fun (a, next) => a.1 < next.1) = true then zGo (zTgt pc (Op.lookupswitch.offset ps.toList d u.toInt)) L s1 h else none)
      rw [if_pos hc]
      rcases gLkp hx hu d ps.toList la e1 with h1 | ⟨t', y, g1, g2, g3⟩
      · rw [h1]
        exact gWay_of (List.mem_append_right _ (m1 x rfl)) hx hL hT ht (zGo_some f1)
      · exact gWay_of (List.mem_append_left _ g2) g3 hL hT ht (zGo_some g1)
    · cases ha
  · split at ha
    · rename_i ix q B'
      obtain ⟨v1, s1, rfl, hv1, hT⟩ := gS_cons hS
      obtain ⟨v2, s2, rfl, hv2, hU⟩ := gS_cons hT
      obtain ⟨i, rfl, hi⟩ := gV_i hv1
      have e := gV_r hv2
      subst e
      have bi := gBd hx hi
      split at ha
      · rename_i tt ks hl
        obtain ⟨hc, ha⟩ := bif_some' ha
        cases ha
        simp only [Bool.and_eq_true, decide_eq_true_eq] at hc
        have hlt : (i.toInt - 0).toNat < ks.length := by omega
        have h2 := List.getElem?_eq_getElem hlt
        obtain ⟨y, g2, g3⟩ := gPick (M := M) (pc := pc + 1) (A := A) (B := B') (r := r) hx hi ks 0 _ (by omega) h2
        refine ⟨pc + 1, L, .ref ks[(i.toInt - 0).toNat] :: s2, h, y, A, .inr ks[(i.toInt - 0).toNat] :: B', ρ, ?_, g2, gPre.rf, g3, hL, ⟨rfl, hU⟩, ht, hW.rf⟩
        show (match zAal L (.int i :: .ref q :: s2) h with
          | some f => some (pc + 1, f)
          | none => none) = _
        unfold zAal
        dsimp only
        rw [hl]
        dsimp only
        rw [if_neg (gIdx (by omega) (by omega))]
        have e3 : i.toNatClampNeg = (i.toInt - 0).toNat := by rw [Int.sub_zero]; rfl
        rw [e3, h2]
      · cases ha
    · cases ha
  · rename_i n1 n2 n3 n4 n5 n6
    split at ha
    · rename_i x' A' B' hi
      cases ha
      obtain ⟨L', S', h', ρ', e1, g1, g2, g3, g4, g5, g6⟩ := gStepI hx hL hS ht hi
      refine ⟨pc + zLen i, L', S', h', x', A', B', ρ', ?_, List.mem_singleton.mpr rfl, g1, g2, g3, g4, g5, g6⟩
      unfold zS
      split
      · exact absurd rfl (n2 _ _)
      · exact absurd rfl (n3 _ _)
      · exact absurd rfl (n1 _)
      · exact absurd rfl (n4 _ _ _ _)
      · exact absurd rfl (n5 _ _)
      · rw [e1]
    · cases ha
end GB

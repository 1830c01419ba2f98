/-! walks of the pure machine: branches as orders of numbers -/
theorem wkZ : (0 : Int32).toInt = 0 := rfl
theorem wkE (x y : Int32) : x = y ↔ x.toInt = y.toInt := ⟨fun z => by rw [z], fun z => Int32.toInt_inj.mp z⟩
theorem wkC1_eq (x : Int32) : zc1 .eq x = true ↔ x.toInt = 0 := decide_eq_true_iff.trans (wkE _ _)
theorem wkC2_eq (x y : Int32) : zc2 .eq x y = true ↔ x.toInt = y.toInt := decide_eq_true_iff.trans (wkE _ _)
theorem wkC1_ne (x : Int32) : zc1 .ne x = true ↔ x.toInt ≠ 0 := by
  show (!decide (x = 0)) = true ↔ _
  rw [Bool.not_eq_true', decide_eq_false_iff_not, wkE]
  rfl
theorem wkC2_ne (x y : Int32) : zc2 .ne x y = true ↔ x.toInt ≠ y.toInt := by
  show (!decide (x = y)) = true ↔ _
  rw [Bool.not_eq_true', decide_eq_false_iff_not, wkE]
theorem wkC1_lt (x : Int32) : zc1 .lt x = true ↔ x.toInt < 0 := decide_eq_true_iff.trans Int32.lt_iff_toInt_lt
theorem wkC2_lt (x y : Int32) : zc2 .lt x y = true ↔ x.toInt < y.toInt := decide_eq_true_iff.trans Int32.lt_iff_toInt_lt
theorem wkC1_ge (x : Int32) : zc1 .ge x = true ↔ 0 ≤ x.toInt := decide_eq_true_iff.trans Int32.le_iff_toInt_le
theorem wkC2_ge (x y : Int32) : zc2 .ge x y = true ↔ y.toInt ≤ x.toInt := decide_eq_true_iff.trans Int32.le_iff_toInt_le
theorem wkC1_gt (x : Int32) : zc1 .gt x = true ↔ 0 < x.toInt := decide_eq_true_iff.trans Int32.lt_iff_toInt_lt
theorem wkC2_gt (x y : Int32) : zc2 .gt x y = true ↔ y.toInt < x.toInt := decide_eq_true_iff.trans Int32.lt_iff_toInt_lt
theorem wkC1_le (x : Int32) : zc1 .le x = true ↔ x.toInt ≤ 0 := decide_eq_true_iff.trans Int32.le_iff_toInt_le
theorem wkC2_le (x y : Int32) : zc2 .le x y = true ↔ x.toInt ≤ y.toInt := decide_eq_true_iff.trans Int32.le_iff_toInt_le
section WK
variable {d M pc : Nat} {e : zE} {L : zLo} {S : List Value} {h : zH} {Q : Option Value → zH → Prop}
theorem zm_and {as : List Value} {Q1 Q2 : Option Value → zH → Prop} (h1 : zm d M as h Q1) (h2 : zm d M as h Q2) : zm d M as h (fun rv h' => Q1 rv h' ∧ Q2 rv h') := by
  obtain ⟨n1, r1, k1, e1, q1⟩ := h1
  obtain ⟨n2, r2, k2, e2, q2⟩ := h2
  cases hM : zP[M]? with
  | none => rw [hM] at e1; cases e1
  | some x =>
    rw [hM] at e1 e2
    dsimp only at e1 e2
    have f1 := zRun_le (Nat.le_add_right n1 n2) e1
    have f2 := zRun_le (Nat.le_add_left n2 n1) e2
    have f3 := Option.some.inj (f1.symm.trans f2)
    cases f3
    refine ⟨n1 + n2, r1, k1, ?_, q1, q2⟩
    rw [hM]
    exact f1
theorem wk_add {x y : Int32} {i j : Int} (ex : x.toInt = i) (ey : y.toInt = j) (h1 : -2147483648 ≤ i + j) (h2 : i + j < 2147483648) : (x + y).toInt = i + j := by
  subst ex
  subst ey
  exact Jvm.Kit.i32_add h1 h2
theorem wk_sub {x y : Int32} {i j : Int} (ex : x.toInt = i) (ey : y.toInt = j) (h1 : -2147483648 ≤ i - j) (h2 : i - j < 2147483648) : (x - y).toInt = i - j := by
  subst ex
  subst ey
  exact Jvm.Kit.i32_sub h1 h2
theorem wk_mul {x y : Int32} {i j : Int} (ex : x.toInt = i) (ey : y.toInt = j) (h1 : -2147483648 ≤ i * j) (h2 : i * j < 2147483648) : (x * y).toInt = i * j := by
  subst ex
  subst ey
  exact Jvm.Kit.i32_mul h1 h2
theorem wk_row {q n : Nat} (hq : lay[q]? = some (.inr (.inl n))) : zRow none q h = some (n, h.1 q) := by
  unfold zRow
  rw [hq]
theorem wk_item {x : Int32} (h0 : 0 ≤ x.toInt) (h1 : x.toInt < 8) : lay[3 + x.toNatClampNeg]? = some (.inr (.inl 40)) := by
  have e : x.toNatClampNeg = x.toInt.toNat := rfl
  have h8 : x.toNatClampNeg < 8 := by omega
  generalize x.toNatClampNeg = k at h8
  match k, h8 with
  | 0, _ => rfl
  | 1, _ => rfl
  | 2, _ => rfl
  | 3, _ => rfl
  | 4, _ => rfl
  | 5, _ => rfl
  | 6, _ => rfl
  | 7, _ => rfl
theorem wk_itemk {x : Int32} (h0 : 0 ≤ x.toInt) (h1 : x.toInt < 8) : ([3, 4, 5, 6, 7, 8, 9, 10] : List Nat)[x.toNatClampNeg]? = some (3 + x.toNatClampNeg) := by
  have e : x.toNatClampNeg = x.toInt.toNat := rfl
  have h8 : x.toNatClampNeg < 8 := by omega
  generalize x.toNatClampNeg = k at h8
  match k, h8 with
  | 0, _ => rfl
  | 1, _ => rfl
  | 2, _ => rfl
  | 3, _ => rfl
  | 4, _ => rfl
  | 5, _ => rfl
  | 6, _ => rfl
  | 7, _ => rfl
theorem wk_at {q j : Nat} {x : Int32} : (zSet h q j x).1 q j = x := by
  simp [zSet, va_up, upd]
theorem wk_ne {q j q' j' : Nat} {x : Int32} (hn : q' ≠ q ∨ j' ≠ j) : (zSet h q j x).1 q' j' = h.1 q' j' := by
  by_cases hq : q' = q
  · subst hq
    have hj : j' ≠ j := hn.elim (fun z => absurd rfl z) id
    simp [zSet, va_up, upd, hj]
  · simp [zSet, va_up, hq]
/-- a boolean answer -/
def zbo (p : Prop) [Decidable p] : Int32 := if p then 1 else 0
theorem zboT {p : Prop} [Decidable p] (hp : p) : some (Value.int (Int32.ofInt 1)) = some (.int (zbo p)) := by
  unfold zbo
  rw [if_pos hp]
  rfl
theorem zboF {p : Prop} [Decidable p] (hp : ¬ p) : some (Value.int (Int32.ofInt 0)) = some (.int (zbo p)) := by
  unfold zbo
  rw [if_neg hp]
  rfl
theorem wk_zb {p q : Prop} [Decidable p] [Decidable q] (hpq : p ↔ q) : some (Value.int (zbo p)) = some (.int (zbo q)) := by
  unfold zbo
  by_cases hp : p
  · rw [if_pos hp, if_pos (hpq.mp hp)]
  · rw [if_neg hp, if_neg (fun z => hp (hpq.mpr z))]
theorem wk_retB {ret : Option FieldType} {p : Prop} [Decidable p] (hr : ret = some .boolean) : zRet ret .ireturn [.int (zbo p)] = some (some (.int (zbo p))) := by
  subst hr
  show (if zbo p = 0 ∨ zbo p = 1 then some (some (Value.int (zbo p))) else none) = _
  have : zbo p = 0 ∨ zbo p = 1 := by
    unfold zbo
    by_cases hp : p
    · rw [if_pos hp]; exact Or.inr rfl
    · rw [if_neg hp]; exact Or.inl rfl
  rw [if_pos this]
theorem wk_ial {q n : Nat} {f : Nat → Int32} {x : Int32} {i : Int} (hM : zP[M]? = some e) (hf : zFind pc (zk e) = some .iaload) (hr : zRow none q h = some (n, f)) (ex : x.toInt = i) (h0 : 0 ≤ i) (h1 : i < (n : Int)) (hw : zwM d M (pc + 1) L (.int (f x.toNatClampNeg) :: S) h Q) : zwM d M pc L (.int x :: .ref q :: S) h Q := by
  subst ex
  refine zwM_one hM hf rfl (pc' := pc + 1) (f := (L, .int (f x.toNatClampNeg) :: S, h)) ?_ (fun _ => rfl) hw
  show (match zIal none L (.int x :: .ref q :: S) h with
    | some f => some (pc + 1, f)
    | none => none) = _
  have : zIal none L (.int x :: .ref q :: S) h = some (L, .int (f x.toNatClampNeg) :: S, h) := by
    unfold zIal
    dsimp only
    rw [hr]
    dsimp only
    rw [if_neg (gIdx h0 h1)]
  rw [this]
theorem wk_ias {q n : Nat} {x v : Int32} {i : Int} (hM : zP[M]? = some e) (hf : zFind pc (zk e) = some .iastore) (hq : lay[q]? = some (.inr (.inl n))) (ex : x.toInt = i) (h0 : 0 ≤ i) (h1 : i < (n : Int)) (hw : zwM d M (pc + 1) L S (zSet h q x.toNatClampNeg v) Q) : zwM d M pc L (.int v :: .int x :: .ref q :: S) h Q := by
  subst ex
  refine zwM_one hM hf rfl (pc' := pc + 1) (f := (L, S, zSet h q x.toNatClampNeg v)) ?_ (fun _ => rfl) hw
  show (match zIas L (.int v :: .int x :: .ref q :: S) h with
    | some f => some (pc + 1, f)
    | none => none) = _
  have : zIas L (.int v :: .int x :: .ref q :: S) h = some (L, S, zSet h q x.toNatClampNeg v) := by
    unfold zIas
    dsimp only
    rw [hq]
    dsimp only
    rw [if_neg (gIdx h0 h1)]
  rw [this]
theorem wk_aal {q t q' : Nat} {ks : List Nat} {x : Int32} {i : Int} (hM : zP[M]? = some e) (hf : zFind pc (zk e) = some .aaload) (hq : lay[q]? = some (.inr (.inr (.inr (t, ks))))) (ex : x.toInt = i) (h0 : 0 ≤ i) (h1 : i < (ks.length : Int)) (hk : ks[x.toNatClampNeg]? = some q') (hw : zwM d M (pc + 1) L (.ref q' :: S) h Q) : zwM d M pc L (.int x :: .ref q :: S) h Q := by
  subst ex
  refine zwM_one hM hf rfl (pc' := pc + 1) (f := (L, .ref q' :: S, h)) ?_ (fun _ => rfl) hw
  show (match zAal L (.int x :: .ref q :: S) h with
    | some f => some (pc + 1, f)
    | none => none) = _
  have : zAal L (.int x :: .ref q :: S) h = some (L, .ref q' :: S, h) := by
    unfold zAal
    dsimp only
    rw [hq]
    dsimp only
    rw [if_neg (gIdx h0 h1), hk]
  rw [this]
theorem wk_callV {e' : zE} {k M' : Nat} {w : Nat × Nat × Nat} (hM : zP[M]? = some e) (hf : zFind pc (zk e) = some (.invokevirtual k)) (hq : zFind k (zQT.getD (zo e) []) = some (M', false, w)) (hM' : zP[M']? = some e') (hc : (Nat.blt S.length (zn e' + 1) || Nat.blt 8 (zCat (S.drop (zn e' + 1))) || !(zRecv (zo e') (S.take (zn e' + 1)).reverse) || Nat.blt (zx e') (zSl (S.take (zn e' + 1))).length) = false) (hw : zm d M' (S.take (zn e' + 1)).reverse h (fun rv h' => zwM (d + 1) M (pc + 3) L (rv.toList ++ S.drop (zn e' + 1)) h' Q)) : zwM (d + 1) M pc L S h Q := by
  simp only [Bool.or_eq_false_iff] at hc
  have nb : ∀ {a b : Nat}, Nat.blt a b = false → ¬ a < b := fun {a b} hh z => by rw [zlt z] at hh; cases hh
  refine ⟨e, hM, zw_call (vir := true) (k := k) (st := false) (w := w) hf rfl (fun rec => rfl) hq rfl hM' ?_ ?_⟩
  · rintro (z | z | z | z)
    · exact nb hc.1.1.1 z
    · exact nb hc.1.1.2 z
    · have := hc.1.2
      rw [show zRecv (zo e') (S.take (zn e' + 1)).reverse = false from z.2] at this
      cases this
    · exact nb hc.2 z
  · refine zm_imp hw (fun rv h' hr => ?_)
    obtain ⟨e2, he2, hw2⟩ := hr
    cases hM.symm.trans he2
    exact hw2
theorem wk_bEq {p : Prop} [Decidable p] {off : Int} {t : Nat} (hM : zP[M]? = some e) (hf : zFind pc (zk e) = some (.ifCond .eq off)) (ht : zTgt pc off = some t) (h1 : ¬ p → zwM d M t L S h Q) (h2 : p → zwM d M (pc + 3) L S h Q) : zwM d M pc L (.int (zbo p) :: S) h Q := by
  refine zwM_if hM hf ht (fun c => h1 (fun hp => ?_)) (fun c => h2 (Decidable.byContradiction fun hp => ?_))
  · unfold zbo at c
    rw [if_pos hp] at c
    cases c
  · unfold zbo at c
    rw [if_neg hp] at c
    cases c
theorem wk_bNe {p : Prop} [Decidable p] {off : Int} {t : Nat} (hM : zP[M]? = some e) (hf : zFind pc (zk e) = some (.ifCond .ne off)) (ht : zTgt pc off = some t) (h1 : p → zwM d M t L S h Q) (h2 : ¬ p → zwM d M (pc + 3) L S h Q) : zwM d M pc L (.int (zbo p) :: S) h Q := by
  refine zwM_if hM hf ht (fun c => h1 (Decidable.byContradiction fun hp => ?_)) (fun c => h2 (fun hp => ?_))
  · unfold zbo at c
    rw [if_neg hp] at c
    cases c
  · unfold zbo at c
    rw [if_pos hp] at c
    cases c
theorem wk_if_eq {off : Int} {t : Nat} {x : Int32} {i : Int} (hM : zP[M]? = some e) (hf : zFind pc (zk e) = some (.ifCond .eq off)) (ht : zTgt pc off = some t) (ex : x.toInt = i) (h1 : i = 0 → zwM d M t L S h Q) (h2 : ¬ (i = 0) → zwM d M (pc + 3) L S h Q) : zwM d M pc L (.int x :: S) h Q := by
  subst ex
  refine zwM_if hM hf ht (fun c => h1 ?_) (fun c => h2 ?_)
  · exact (wkC1_eq x).mp c
  · exact fun z => by rw [(wkC1_eq x).mpr z] at c; cases c
theorem wk_ic_eq {off : Int} {t : Nat} {x y : Int32} {i j : Int} (hM : zP[M]? = some e) (hf : zFind pc (zk e) = some (.if_icmp .eq off)) (ht : zTgt pc off = some t) (ex : x.toInt = i) (ey : y.toInt = j) (h1 : i = j → zwM d M t L S h Q) (h2 : ¬ (i = j) → zwM d M (pc + 3) L S h Q) : zwM d M pc L (.int y :: .int x :: S) h Q := by
  subst ex
  subst ey
  refine zwM_icmp hM hf ht (fun c => h1 ?_) (fun c => h2 ?_)
  · exact (wkC2_eq x y).mp c
  · exact fun z => by rw [(wkC2_eq x y).mpr z] at c; cases c
theorem wk_if_ne {off : Int} {t : Nat} {x : Int32} {i : Int} (hM : zP[M]? = some e) (hf : zFind pc (zk e) = some (.ifCond .ne off)) (ht : zTgt pc off = some t) (ex : x.toInt = i) (h1 : i ≠ 0 → zwM d M t L S h Q) (h2 : ¬ (i ≠ 0) → zwM d M (pc + 3) L S h Q) : zwM d M pc L (.int x :: S) h Q := by
  subst ex
  refine zwM_if hM hf ht (fun c => h1 ?_) (fun c => h2 ?_)
  · exact (wkC1_ne x).mp c
  · exact fun z => by rw [(wkC1_ne x).mpr z] at c; cases c
theorem wk_ic_ne {off : Int} {t : Nat} {x y : Int32} {i j : Int} (hM : zP[M]? = some e) (hf : zFind pc (zk e) = some (.if_icmp .ne off)) (ht : zTgt pc off = some t) (ex : x.toInt = i) (ey : y.toInt = j) (h1 : i ≠ j → zwM d M t L S h Q) (h2 : ¬ (i ≠ j) → zwM d M (pc + 3) L S h Q) : zwM d M pc L (.int y :: .int x :: S) h Q := by
  subst ex
  subst ey
  refine zwM_icmp hM hf ht (fun c => h1 ?_) (fun c => h2 ?_)
  · exact (wkC2_ne x y).mp c
  · exact fun z => by rw [(wkC2_ne x y).mpr z] at c; cases c
theorem wk_if_lt {off : Int} {t : Nat} {x : Int32} {i : Int} (hM : zP[M]? = some e) (hf : zFind pc (zk e) = some (.ifCond .lt off)) (ht : zTgt pc off = some t) (ex : x.toInt = i) (h1 : i < 0 → zwM d M t L S h Q) (h2 : ¬ (i < 0) → zwM d M (pc + 3) L S h Q) : zwM d M pc L (.int x :: S) h Q := by
  subst ex
  refine zwM_if hM hf ht (fun c => h1 ?_) (fun c => h2 ?_)
  · exact (wkC1_lt x).mp c
  · exact fun z => by rw [(wkC1_lt x).mpr z] at c; cases c
theorem wk_ic_lt {off : Int} {t : Nat} {x y : Int32} {i j : Int} (hM : zP[M]? = some e) (hf : zFind pc (zk e) = some (.if_icmp .lt off)) (ht : zTgt pc off = some t) (ex : x.toInt = i) (ey : y.toInt = j) (h1 : i < j → zwM d M t L S h Q) (h2 : ¬ (i < j) → zwM d M (pc + 3) L S h Q) : zwM d M pc L (.int y :: .int x :: S) h Q := by
  subst ex
  subst ey
  refine zwM_icmp hM hf ht (fun c => h1 ?_) (fun c => h2 ?_)
  · exact (wkC2_lt x y).mp c
  · exact fun z => by rw [(wkC2_lt x y).mpr z] at c; cases c
theorem wk_if_ge {off : Int} {t : Nat} {x : Int32} {i : Int} (hM : zP[M]? = some e) (hf : zFind pc (zk e) = some (.ifCond .ge off)) (ht : zTgt pc off = some t) (ex : x.toInt = i) (h1 : 0 ≤ i → zwM d M t L S h Q) (h2 : ¬ (0 ≤ i) → zwM d M (pc + 3) L S h Q) : zwM d M pc L (.int x :: S) h Q := by
  subst ex
  refine zwM_if hM hf ht (fun c => h1 ?_) (fun c => h2 ?_)
  · exact (wkC1_ge x).mp c
  · exact fun z => by rw [(wkC1_ge x).mpr z] at c; cases c
theorem wk_ic_ge {off : Int} {t : Nat} {x y : Int32} {i j : Int} (hM : zP[M]? = some e) (hf : zFind pc (zk e) = some (.if_icmp .ge off)) (ht : zTgt pc off = some t) (ex : x.toInt = i) (ey : y.toInt = j) (h1 : j ≤ i → zwM d M t L S h Q) (h2 : ¬ (j ≤ i) → zwM d M (pc + 3) L S h Q) : zwM d M pc L (.int y :: .int x :: S) h Q := by
  subst ex
  subst ey
  refine zwM_icmp hM hf ht (fun c => h1 ?_) (fun c => h2 ?_)
  · exact (wkC2_ge x y).mp c
  · exact fun z => by rw [(wkC2_ge x y).mpr z] at c; cases c
theorem wk_if_gt {off : Int} {t : Nat} {x : Int32} {i : Int} (hM : zP[M]? = some e) (hf : zFind pc (zk e) = some (.ifCond .gt off)) (ht : zTgt pc off = some t) (ex : x.toInt = i) (h1 : 0 < i → zwM d M t L S h Q) (h2 : ¬ (0 < i) → zwM d M (pc + 3) L S h Q) : zwM d M pc L (.int x :: S) h Q := by
  subst ex
  refine zwM_if hM hf ht (fun c => h1 ?_) (fun c => h2 ?_)
  · exact (wkC1_gt x).mp c
  · exact fun z => by rw [(wkC1_gt x).mpr z] at c; cases c
theorem wk_ic_gt {off : Int} {t : Nat} {x y : Int32} {i j : Int} (hM : zP[M]? = some e) (hf : zFind pc (zk e) = some (.if_icmp .gt off)) (ht : zTgt pc off = some t) (ex : x.toInt = i) (ey : y.toInt = j) (h1 : j < i → zwM d M t L S h Q) (h2 : ¬ (j < i) → zwM d M (pc + 3) L S h Q) : zwM d M pc L (.int y :: .int x :: S) h Q := by
  subst ex
  subst ey
  refine zwM_icmp hM hf ht (fun c => h1 ?_) (fun c => h2 ?_)
  · exact (wkC2_gt x y).mp c
  · exact fun z => by rw [(wkC2_gt x y).mpr z] at c; cases c
theorem wk_if_le {off : Int} {t : Nat} {x : Int32} {i : Int} (hM : zP[M]? = some e) (hf : zFind pc (zk e) = some (.ifCond .le off)) (ht : zTgt pc off = some t) (ex : x.toInt = i) (h1 : i ≤ 0 → zwM d M t L S h Q) (h2 : ¬ (i ≤ 0) → zwM d M (pc + 3) L S h Q) : zwM d M pc L (.int x :: S) h Q := by
  subst ex
  refine zwM_if hM hf ht (fun c => h1 ?_) (fun c => h2 ?_)
  · exact (wkC1_le x).mp c
  · exact fun z => by rw [(wkC1_le x).mpr z] at c; cases c
theorem wk_ic_le {off : Int} {t : Nat} {x y : Int32} {i j : Int} (hM : zP[M]? = some e) (hf : zFind pc (zk e) = some (.if_icmp .le off)) (ht : zTgt pc off = some t) (ex : x.toInt = i) (ey : y.toInt = j) (h1 : i ≤ j → zwM d M t L S h Q) (h2 : ¬ (i ≤ j) → zwM d M (pc + 3) L S h Q) : zwM d M pc L (.int y :: .int x :: S) h Q := by
  subst ex
  subst ey
  refine zwM_icmp hM hf ht (fun c => h1 ?_) (fun c => h2 ?_)
  · exact (wkC2_le x y).mp c
  · exact fun z => by rw [(wkC2_le x y).mpr z] at c; cases c
end WK

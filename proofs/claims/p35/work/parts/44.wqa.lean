/-! partial runs: what holds of every end that a run comes to -/
def zQ (n M pc : Nat) (L : zLo) (S : List Value) (h : zH) (Q : Option Value → zH → Prop) : Prop :=
  ∀ (x : zE) (m d : Nat) (rv : Option Value) (h' : zH), zP[M]? = some x → m ≤ n → zExec none (zo x) (zk x) (zr x) m d pc L S h = some (rv, h') → Q rv h'
def zqm (M : Nat) (as : List Value) (h : zH) (Q : Option Value → zH → Prop) : Prop :=
  ∀ (x : zE) (m d : Nat) (rv : Option Value) (h' : zH), zP[M]? = some x → zRun m d M 0 (zEnt as (zx x)) [] h = some (rv, h') → Q rv h'
theorem zRun_dl {n d d' M pc : Nat} {L : zLo} {S : List Value} {h : zH} {out : Option Value × zH} (hd : d ≤ d') (hz : zRun n d M pc L S h = some out) : zRun n d' M pc L S h = some out := by
  obtain ⟨k, rfl⟩ := Nat.le.dest hd
  induction k with
  | zero => exact hz
  | succ k ih => exact zRun_dep _ _ _ _ _ _ _ _ (ih (Nat.le_add_right _ _))
/-- what a call answers: a number, a long, nothing -/
def zri (rv : Option Value) (K : Int32 → Prop) : Prop := match rv with
  | some (.int v) => K v
  | _ => True
def zrl (rv : Option Value) (K : Int64 → Prop) : Prop := match rv with
  | some (.long v) => K v
  | _ => True
theorem zri_int {v : Int32} {K : Int32 → Prop} (h : K v) : zri (some (.int v)) K := h
theorem zrl_long {v : Int64} {K : Int64 → Prop} (h : K v) : zrl (some (.long v)) K := h
section ZQ
variable {n M pc : Nat} {e : zE} {L : zLo} {S : List Value} {h : zH} {Q Q' : Option Value → zH → Prop}
theorem zQ_le {n' : Nat} (hn : n ≤ n') (hw : zQ n' M pc L S h Q) : zQ n M pc L S h Q := fun x m d rv h' hx hm hz => hw x m d rv h' hx (Nat.le_trans hm hn) hz
theorem zQ_up (hw : zQ (n + 1) M pc L S h Q) : zQ n M pc L S h Q := zQ_le (Nat.le_succ n) hw
theorem zQ_imp (hw : zQ n M pc L S h Q) (hq : ∀ rv h', Q rv h' → Q' rv h') : zQ n M pc L S h Q' := fun x m d rv h' hx hm hz => hq _ _ (hw x m d rv h' hx hm hz)
theorem zqm_imp {as : List Value} (hw : zqm M as h Q) (hq : ∀ rv h', Q rv h' → Q' rv h') : zqm M as h Q' := fun x m d rv h' hx hz => hq _ _ (hw x m d rv h' hx hz)
theorem zqm_and {as : List Value} (h1 : zqm M as h Q) (h2 : zqm M as h Q') : zqm M as h (fun rv h' => Q rv h' ∧ Q' rv h') := fun x m d rv h' hx hz => ⟨h1 x m d rv h' hx hz, h2 x m d rv h' hx hz⟩
theorem zqm_of {as : List Value} (hM : zP[M]? = some e) (hw : ∀ n, zQ n M 0 (zEnt as (zx e)) [] h Q) : zqm M as h Q := by
  intro x m d rv h' hx hz
  cases hM.symm.trans hx
  rw [zRun_eq hM] at hz
  exact hw m e m d rv h' hM (Nat.le_refl m) hz
/-- what is so of a run is so of every end -/
theorem zqm_zm {d : Nat} {as : List Value} (hw : zm d M as h Q) : zqm M as h Q := by
  obtain ⟨n1, r1, k1, e1, q1⟩ := hw
  intro x m d' rv h' hx hz
  rw [hx] at e1
  dsimp only at e1
  have f1 := zRun_le (Nat.le_add_right n1 m) (zRun_dl (Nat.le_add_right d d') e1)
  have f2 := zRun_le (Nat.le_add_left m n1) (zRun_dl (Nat.le_add_left d' d) hz)
  cases Option.some.inj (f1.symm.trans f2)
  exact q1
theorem zm_q {d : Nat} {as : List Value} (h1 : zm d M as h Q) (h2 : zqm M as h Q') : zm d M as h (fun rv h' => Q rv h' ∧ Q' rv h') := by
  obtain ⟨n1, r1, k1, e1, q1⟩ := h1
  cases hM : zP[M]? with
  | none => rw [hM] at e1; cases e1
  | some x =>
    rw [hM] at e1
    dsimp only at e1
    refine ⟨n1, r1, k1, ?_, q1, h2 x n1 d r1 k1 hM e1⟩
    rw [hM]
    exact e1
theorem zQ_step {i : Instr} {P : Prop} {pc' : Nat} {f : zF} (hM : zP[M]? = some e) (hf : zFind pc (zk e) = some i) (hi : aIsRet i = false) (hs : ∀ rec q, zOne none rec (zo e) pc i L S h = some q → q = (pc', f) ∧ P) (hw : P → zQ n M pc' f.1 f.2.1 f.2.2 Q) : zQ (n + 1) M pc L S h Q := by
  intro x m d rv h' hx hm hz
  cases hM.symm.trans hx
  cases m with
  | zero => unfold zExec at hz; cases hz
  | succ m =>
    unfold zExec at hz
    rw [hf] at hz
    dsimp only at hz
    rw [zRet_none hi] at hz
    dsimp only at hz
    split at hz
    · cases hz
    · rename_i pc1 L1 S1 h1 ho
      obtain ⟨hq, hP⟩ := hs _ _ ho
      cases hq
      exact hw hP e m d rv h' hM (Nat.le_of_succ_le_succ hm) hz
/-! a row of plain instructions at once -/
def zI2 (o : Nat) (i : Instr) (L : zLo) (S : List Value) (h : zH) : Option zF := match i with
  | .bipush n => match n with
    | .ofNat k => bif Nat.blt k 128 then some (L, .int (Int32.ofInt n) :: S, h) else none
    | .negSucc k => bif Nat.blt k 128 then some (L, .int (Int32.ofInt n) :: S, h) else none
  | .sipush n => match n with
    | .ofNat k => bif Nat.blt k 32768 then some (L, .int (Int32.ofInt n) :: S, h) else none
    | .negSucc k => bif Nat.blt k 32768 then some (L, .int (Int32.ofInt n) :: S, h) else none
  | i => zI none o i L S h
def zPl : Instr → Bool
  | .ireturn => false
  | .lreturn => false
  | .return_ => false
  | .invokestatic _ => false
  | .invokevirtual _ => false
  | .ifCond _ _ => false
  | .if_icmp _ _ => false
  | .goto _ => false
  | .tableswitch _ _ _ _ => false
  | .lookupswitch _ _ => false
  | _ => true
theorem i8_i32 {n : Int} (h1 : -128 ≤ n) (h2 : n < 128) : (Int8.ofInt n).toInt32 = Int32.ofInt n := by
  apply Int32.toInt_inj.mp
  rw [Int8.toInt_toInt32, Int8.toInt_ofInt_of_le (by omega) (by omega), Int32.toInt_ofInt_of_le (by omega) (by omega)]
theorem i16_i32 {n : Int} (h1 : -32768 ≤ n) (h2 : n < 32768) : (Int16.ofInt n).toInt32 = Int32.ofInt n := by
  apply Int32.toInt_inj.mp
  rw [Int16.toInt_toInt32, Int16.toInt_ofInt_of_le (by omega) (by omega), Int32.toInt_ofInt_of_le (by omega) (by omega)]
theorem bltT {a b : Nat} (h : Nat.blt a b = true) : a < b := Nat.le_of_ble_eq_true h
theorem zI2_ok {o : Nat} {i : Instr} {f : zF} (hs : zI2 o i L S h = some f) : zI none o i L S h = some f := by
  unfold zI2 at hs
  split at hs
  · rename_i n
    show some (L, Value.int (Int8.ofInt n).toInt32 :: S, h) = some f
    split at hs
    · rename_i k
      cases hb : Nat.blt k 128 with
      | false => rw [hb] at hs; cases hs
      | true =>
        rw [hb] at hs
        have := bltT hb
        rw [i8_i32 (by show -128 ≤ (k : Int); omega) (by show (k : Int) < 128; omega)]
        exact hs
    · rename_i k
      cases hb : Nat.blt k 128 with
      | false => rw [hb] at hs; cases hs
      | true =>
        rw [hb] at hs
        have := bltT hb
        rw [i8_i32 (by rw [Int.negSucc_eq]; omega) (by rw [Int.negSucc_eq]; omega)]
        exact hs
  · rename_i n
    show some (L, Value.int (Int16.ofInt n).toInt32 :: S, h) = some f
    split at hs
    · rename_i k
      cases hb : Nat.blt k 32768 with
      | false => rw [hb] at hs; cases hs
      | true =>
        rw [hb] at hs
        have := bltT hb
        rw [i16_i32 (by show -32768 ≤ (k : Int); omega) (by show (k : Int) < 32768; omega)]
        exact hs
    · rename_i k
      cases hb : Nat.blt k 32768 with
      | false => rw [hb] at hs; cases hs
      | true =>
        rw [hb] at hs
        have := bltT hb
        rw [i16_i32 (by rw [Int.negSucc_eq]; omega) (by rw [Int.negSucc_eq]; omega)]
        exact hs
  · exact hs
def zSeq (o : Nat) (K : List (Nat × Instr)) : Nat → Nat → zLo → List Value → zH → Option (Nat × zF)
  | 0, pc, L, S, h => some (pc, L, S, h)
  | k + 1, pc, L, S, h => match zFind pc K with
    | none => none
    | some i => bif zPl i then match zI2 o i L S h with
      | some f => zSeq o K k (pc + zLen i) f.1 f.2.1 f.2.2
      | none => none
      else none
theorem zPl_one {i : Instr} {o pc : Nat} {rec : Nat → zLo → zH → Option (Option Value × zH)} (hp : zPl i = true) : zOne none rec o pc i L S h = (match zI none o i L S h with
    | some f => some (pc + zLen i, f)
    | none => none) := by
  unfold zOne
  split
  · cases hp
  · cases hp
  · unfold zS
    split
    · cases hp
    · cases hp
    · cases hp
    · cases hp
    · cases hp
    · rfl
theorem zPl_ret {i : Instr} (hp : zPl i = true) : aIsRet i = false := by
  cases i <;> first | rfl | cases hp
theorem zQ_seq0 (hM : zP[M]? = some e) : ∀ (k : Nat) {pc pc' : Nat} {L L' : zLo} {S S' : List Value} {h h' : zH}, zSeq (zo e) (zk e) k pc L S h = some (pc', L', S', h') → zQ n M pc' L' S' h' Q → zQ (n + k) M pc L S h Q
  | 0, pc, pc', L, L', S, S', h, h', hs, hw => by
    unfold zSeq at hs
    cases hs
    exact hw
  | k + 1, pc, pc', L, L', S, S', h, h', hs, hw => by
    unfold zSeq at hs
    split at hs
    · cases hs
    · rename_i i hf
      cases hp : zPl i with
      | false => rw [hp] at hs; cases hs
      | true =>
        rw [hp] at hs
        dsimp only [cond] at hs
        split at hs
        · rename_i f hi
          refine zQ_step (P := True) (pc' := pc + zLen i) (f := f) hM hf (zPl_ret hp) (fun rec q hq => ?_) (fun _ => zQ_seq0 hM k hs hw)
          rw [zPl_one hp, zI2_ok hi] at hq
          cases hq
          exact ⟨rfl, trivial⟩
        · cases hs
theorem zQ_seq (k : Nat) {pc' : Nat} {L' : zLo} {S' : List Value} {h' : zH} (hM : zP[M]? = some e) (hs : zSeq (zo e) (zk e) k pc L S h = some (pc', L', S', h')) (hw : zQ n M pc' L' S' h' Q) : zQ n M pc L S h Q := zQ_le (Nat.le_add_right n k) (zQ_seq0 hM k hs hw)
/-- the same, where a loop begins -/
theorem zQ_seqL (k : Nat) {pc' : Nat} {L' : zLo} {S' : List Value} {h' : zH} (hM : zP[M]? = some e) (hs : zSeq (zo e) (zk e) (k + 1) pc L S h = some (pc', L', S', h')) (hw : zQ n M pc' L' S' h' Q) : zQ (n + 1) M pc L S h Q := zQ_le (by omega) (zQ_seq0 hM (k + 1) hs hw)
theorem zQ_goto {off : Int} {t : Nat} (hM : zP[M]? = some e) (hf : zFind pc (zk e) = some (.goto off)) (ht : zTgt pc off = some t) (hw : zQ n M t L S h Q) : zQ n M pc L S h Q := zQ_up (zQ_step (P := True) (pc' := t) (f := (L, S, h)) hM hf rfl (fun rec q hq => by
  have hq : zGo (zTgt pc off) L S h = some q := hq
  rw [ht] at hq
  cases hq
  exact ⟨rfl, trivial⟩) (fun _ => hw))
/-! branches -/
def cP1 (c : Jvm.ClassFile.Cond) (x : Int) : Prop := match c with
  | .eq => x = 0
  | .ne => ¬ x = 0
  | .lt => x < 0
  | .ge => 0 ≤ x
  | .gt => 0 < x
  | .le => x ≤ 0
def cP2 (c : Jvm.ClassFile.Cond) (x y : Int) : Prop := match c with
  | .eq => x = y
  | .ne => ¬ x = y
  | .lt => x < y
  | .ge => y ≤ x
  | .gt => y < x
  | .le => x ≤ y
theorem cP1_ok (c : Jvm.ClassFile.Cond) (x : Int32) : zc1 c x = true ↔ cP1 c x.toInt := by
  cases c
  · exact wkC1_eq x
  · exact wkC1_ne x
  · exact wkC1_lt x
  · exact wkC1_ge x
  · exact wkC1_gt x
  · exact wkC1_le x
theorem cP2_ok (c : Jvm.ClassFile.Cond) (x y : Int32) : zc2 c x y = true ↔ cP2 c x.toInt y.toInt := by
  cases c
  · exact wkC2_eq x y
  · exact wkC2_ne x y
  · exact wkC2_lt x y
  · exact wkC2_ge x y
  · exact wkC2_gt x y
  · exact wkC2_le x y
theorem zQ_if {c : Jvm.ClassFile.Cond} {off : Int} {t : Nat} {x : Int32} {i : Int} (hM : zP[M]? = some e) (hf : zFind pc (zk e) = some (.ifCond c off)) (ht : zTgt pc off = some t) (ex : x.toInt = i) (h1 : cP1 c i → zQ n M t L S h Q) (h2 : ¬ cP1 c i → zQ n M (pc + 3) L S h Q) : zQ n M pc L (.int x :: S) h Q := by
  subst ex
  refine zQ_up (zQ_step (P := True) (pc' := bif zc1 c x then t else pc + 3) (f := (L, S, h)) hM hf rfl (fun rec q hq => ?_) (fun _ => ?_))
  · have hq : (match zTgt pc off with
      | some t => some (bif zc1 c x then t else pc + 3, L, S, h)
      | none => none) = some q := hq
    rw [ht] at hq
    cases hq
    exact ⟨rfl, trivial⟩
  · cases hc : zc1 c x with
    | true => exact h1 ((cP1_ok c x).mp hc)
    | false => exact h2 (fun z => by rw [(cP1_ok c x).mpr z] at hc; cases hc)
theorem zQ_ic {c : Jvm.ClassFile.Cond} {off : Int} {t : Nat} {x y : Int32} {i j : Int} (hM : zP[M]? = some e) (hf : zFind pc (zk e) = some (.if_icmp c off)) (ht : zTgt pc off = some t) (ex : x.toInt = i) (ey : y.toInt = j) (h1 : cP2 c i j → zQ n M t L S h Q) (h2 : ¬ cP2 c i j → zQ n M (pc + 3) L S h Q) : zQ n M pc L (.int y :: .int x :: S) h Q := by
  subst ex
  subst ey
  refine zQ_up (zQ_step (P := True) (pc' := bif zc2 c x y then t else pc + 3) (f := (L, S, h)) hM hf rfl (fun rec q hq => ?_) (fun _ => ?_))
  · have hq : (match zTgt pc off with
      | some t => some (bif zc2 c x y then t else pc + 3, L, S, h)
      | none => none) = some q := hq
    rw [ht] at hq
    cases hq
    exact ⟨rfl, trivial⟩
  · cases hc : zc2 c x y with
    | true => exact h1 ((cP2_ok c x y).mp hc)
    | false => exact h2 (fun z => by rw [(cP2_ok c x y).mpr z] at hc; cases hc)
/-- a switch: the place that a number leads to -/
def zTsw (pc : Nat) (d lo hi : Int) (offs : Array Int) (x : Int) : Option Nat := if x < lo ∨ hi < x then zTgt pc d else match offs[(x - lo).toNat]? with
  | some off => zTgt pc off
  | none => none
theorem zQ_tsw {d lo hi : Int} {offs : Array Int} {x : Int32} (hM : zP[M]? = some e) (hf : zFind pc (zk e) = some (.tableswitch d lo hi offs)) (hw : ∀ t, zTsw pc d lo hi offs x.toInt = some t → zQ n M t L S h Q) : zQ n M pc L (.int x :: S) h Q := by
  cases hs : zTsw pc d lo hi offs x.toInt with
  | none =>
    refine zQ_up (zQ_step (P := False) (pc' := 0) (f := (L, S, h)) hM hf rfl (fun rec q hq => ?_) (fun z => z.elim))
    exfalso
    have hq : (if x.toInt < lo ∨ hi < x.toInt then zGo (zTgt pc d) L S h else match offs[(x.toInt - lo).toNat]? with
      | some off => zGo (zTgt pc off) L S h
      | none => none) = some q := hq
    unfold zTsw at hs
    split at hs
    · rename_i hc
      rw [if_pos hc, hs] at hq
      cases hq
    · rename_i hc
      rw [if_neg hc] at hq
      split at hq
      · rename_i off ho
        rw [ho] at hs
        dsimp only at hs
        rw [hs] at hq
        cases hq
      · cases hq
  | some t =>
    refine zQ_up (zQ_step (P := True) (pc' := t) (f := (L, S, h)) hM hf rfl (fun rec q hq => ?_) (fun _ => hw t hs))
    have hq : (if x.toInt < lo ∨ hi < x.toInt then zGo (zTgt pc d) L S h else match offs[(x.toInt - lo).toNat]? with
      | some off => zGo (zTgt pc off) L S h
      | none => none) = some q := hq
    unfold zTsw at hs
    split at hs
    · rename_i hc
      rw [if_pos hc, hs] at hq
      cases hq
      exact ⟨rfl, trivial⟩
    · rename_i hc
      rw [if_neg hc] at hq
      split at hq
      · rename_i off ho
        rw [ho] at hs
        dsimp only at hs
        rw [hs] at hq
        cases hq
        exact ⟨rfl, trivial⟩
      · cases hq
theorem zTsw_d {d lo hi x : Int} {offs : Array Int} {t t' : Nat} (hd : zTgt pc d = some t') (hx : x < lo ∨ hi < x) (h : zTsw pc d lo hi offs x = some t) : t = t' := by
  unfold zTsw at h
  rw [if_pos hx, hd] at h
  exact (Option.some.inj h).symm
theorem zQ_lsw {d : Int} {ps : Array (Int × Int)} {x : Int32} (hM : zP[M]? = some e) (hf : zFind pc (zk e) = some (.lookupswitch d ps)) (hw : ∀ t, zTgt pc (Op.lookupswitch.offset ps.toList d x.toInt) = some t → zQ n M t L S h Q) : zQ n M pc L (.int x :: S) h Q := by
  cases hs : zTgt pc (Op.lookupswitch.offset ps.toList d x.toInt) with
  | none =>
    refine zQ_up (zQ_step (P := False) (pc' := 0) (f := (L, S, h)) hM hf rfl (fun rec q hq => ?_) (fun z => z.elim))
    exfalso
    have hq : (if (ps.toList.zip (ps.toList.drop 1)).all (fun (a, next) => a.1 < next.1) = true then zGo (zTgt pc (Op.lookupswitch.offset ps.toList d x.toInt)) L S h else none) = some q := hq
    split at hq
    · rw [hs] at hq
      cases hq
    · cases hq
  | some t =>
    refine zQ_up (zQ_step (P := True) (pc' := t) (f := (L, S, h)) hM hf rfl (fun rec q hq => ?_) (fun _ => hw t hs))
    have hq : (if (ps.toList.zip (ps.toList.drop 1)).all (fun (a, next) => a.1 < next.1) = true then zGo (zTgt pc (Op.lookupswitch.offset ps.toList d x.toInt)) L S h else none) = some q := hq
    split at hq
    · rw [hs] at hq
      cases hq
      exact ⟨rfl, trivial⟩
    · cases hq
/-! rows of numbers: the index is inside, or there is no end -/
theorem zQ_ial {q N : Nat} {f : Nat → Int32} {x : Int32} {i : Int} (hM : zP[M]? = some e) (hf : zFind pc (zk e) = some .iaload) (hr : zRow none q h = some (N, f)) (ex : x.toInt = i) (hw : 0 ≤ i → i < (N : Int) → zQ n M (pc + 1) L (.int (f i.toNat) :: S) h Q) : zQ n M pc L (.int x :: .ref q :: S) h Q := by
  subst ex
  refine zQ_up (zQ_step (P := 0 ≤ x.toInt ∧ x.toInt < (N : Int)) (pc' := pc + 1) (f := (L, .int (f x.toInt.toNat) :: S, h)) hM hf rfl (fun rec q' hq => ?_) (fun hP => hw hP.1 hP.2))
  have hq : (match zIal none L (.int x :: .ref q :: S) h with
    | some f => some (pc + 1, f)
    | none => none) = some q' := hq
  unfold zIal at hq
  dsimp only at hq
  rw [hr] at hq
  dsimp only at hq
  by_cases hc : x < 0 ∨ N ≤ x.toNatClampNeg
  · rw [if_pos hc] at hq
    cases hq
  · rw [if_neg hc] at hq
    have e1 : x.toNatClampNeg = x.toInt.toNat := rfl
    rw [Int32.lt_iff_toInt_lt, e1] at hc
    have hz : (0 : Int32).toInt = 0 := rfl
    rw [hz] at hc
    refine ⟨(Option.some.inj hq).symm, ?_⟩
    omega
theorem zQ_ias {q N : Nat} {x v : Int32} {i : Int} (hM : zP[M]? = some e) (hf : zFind pc (zk e) = some .iastore) (hr : lay[q]? = some (.inr (.inl N))) (ex : x.toInt = i) (hw : 0 ≤ i → i < (N : Int) → zQ n M (pc + 1) L S (zSet h q i.toNat v) Q) : zQ n M pc L (.int v :: .int x :: .ref q :: S) h Q := by
  subst ex
  refine zQ_up (zQ_step (P := 0 ≤ x.toInt ∧ x.toInt < (N : Int)) (pc' := pc + 1) (f := (L, S, zSet h q x.toInt.toNat v)) hM hf rfl (fun rec q' hq => ?_) (fun hP => hw hP.1 hP.2))
  have hq : (match zIas L (.int v :: .int x :: .ref q :: S) h with
    | some f => some (pc + 1, f)
    | none => none) = some q' := hq
  unfold zIas at hq
  dsimp only at hq
  rw [hr] at hq
  dsimp only at hq
  by_cases hc : x < 0 ∨ N ≤ x.toNatClampNeg
  · rw [if_pos hc] at hq
    cases hq
  · rw [if_neg hc] at hq
    have e1 : x.toNatClampNeg = x.toInt.toNat := rfl
    rw [Int32.lt_iff_toInt_lt, e1] at hc
    have hz : (0 : Int32).toInt = 0 := rfl
    rw [hz] at hc
    refine ⟨(Option.some.inj hq).symm, ?_⟩
    omega
theorem zQ_lal {q N : Nat} {x : Int32} {i : Int} (hM : zP[M]? = some e) (hf : zFind pc (zk e) = some .laload) (hr : lay[q]? = some (.inr (.inr (.inl N)))) (ex : x.toInt = i) (hw : 0 ≤ i → i < (N : Int) → zQ n M (pc + 1) L (.long (h.2 q i.toNat) :: S) h Q) : zQ n M pc L (.int x :: .ref q :: S) h Q := by
  subst ex
  refine zQ_up (zQ_step (P := 0 ≤ x.toInt ∧ x.toInt < (N : Int)) (pc' := pc + 1) (f := (L, .long (h.2 q x.toInt.toNat) :: S, h)) hM hf rfl (fun rec q' hq => ?_) (fun hP => hw hP.1 hP.2))
  have hq : (match zLal L (.int x :: .ref q :: S) h with
    | some f => some (pc + 1, f)
    | none => none) = some q' := hq
  unfold zLal at hq
  dsimp only at hq
  rw [hr] at hq
  dsimp only at hq
  by_cases hc : x < 0 ∨ N ≤ x.toNatClampNeg
  · rw [if_pos hc] at hq
    cases hq
  · rw [if_neg hc] at hq
    have e1 : x.toNatClampNeg = x.toInt.toNat := rfl
    rw [Int32.lt_iff_toInt_lt, e1] at hc
    have hz : (0 : Int32).toInt = 0 := rfl
    rw [hz] at hc
    refine ⟨(Option.some.inj hq).symm, ?_⟩
    omega
def zSetL (h : zH) (q j : Nat) (x : Int64) : zH := (h.1, va_up h.2 q (vp_updL (h.2 q) j x))
theorem zQ_las {q N : Nat} {x : Int32} {v : Int64} {i : Int} (hM : zP[M]? = some e) (hf : zFind pc (zk e) = some .lastore) (hr : lay[q]? = some (.inr (.inr (.inl N)))) (ex : x.toInt = i) (hw : 0 ≤ i → i < (N : Int) → zQ n M (pc + 1) L S (zSetL h q i.toNat v) Q) : zQ n M pc L (.long v :: .int x :: .ref q :: S) h Q := by
  subst ex
  refine zQ_up (zQ_step (P := 0 ≤ x.toInt ∧ x.toInt < (N : Int)) (pc' := pc + 1) (f := (L, S, zSetL h q x.toInt.toNat v)) hM hf rfl (fun rec q' hq => ?_) (fun hP => hw hP.1 hP.2))
  have hq : (match zLas L (.long v :: .int x :: .ref q :: S) h with
    | some f => some (pc + 1, f)
    | none => none) = some q' := hq
  unfold zLas at hq
  dsimp only at hq
  rw [hr] at hq
  dsimp only at hq
  by_cases hc : x < 0 ∨ N ≤ x.toNatClampNeg
  · rw [if_pos hc] at hq
    cases hq
  · rw [if_neg hc] at hq
    have e1 : x.toNatClampNeg = x.toInt.toNat := rfl
    rw [Int32.lt_iff_toInt_lt, e1] at hc
    have hz : (0 : Int32).toInt = 0 := rfl
    rw [hz] at hc
    refine ⟨(Option.some.inj hq).symm, ?_⟩
    omega
theorem zQ_aal {q t : Nat} {ks : List Nat} {x : Int32} {i : Int} (hM : zP[M]? = some e) (hf : zFind pc (zk e) = some .aaload) (hr : lay[q]? = some (.inr (.inr (.inr (t, ks))))) (ex : x.toInt = i) (hw : 0 ≤ i → i < (ks.length : Int) → ∀ q', ks[i.toNat]? = some q' → zQ n M (pc + 1) L (.ref q' :: S) h Q) : zQ n M pc L (.int x :: .ref q :: S) h Q := by
  subst ex
  cases hk : ks[x.toInt.toNat]? with
  | none =>
    refine zQ_up (zQ_step (P := False) (pc' := 0) (f := (L, S, h)) hM hf rfl (fun rec q' hq => ?_) (fun z => z.elim))
    exfalso
    have hq : (match zAal L (.int x :: .ref q :: S) h with
      | some f => some (pc + 1, f)
      | none => none) = some q' := hq
    unfold zAal at hq
    dsimp only at hq
    rw [hr] at hq
    dsimp only at hq
    have e1 : x.toNatClampNeg = x.toInt.toNat := rfl
    rw [e1, hk] at hq
    by_cases hc : x < 0 ∨ ks.length ≤ x.toInt.toNat
    · rw [if_pos hc] at hq
      cases hq
    · rw [if_neg hc] at hq
      cases hq
  | some q1 =>
    refine zQ_up (zQ_step (P := 0 ≤ x.toInt ∧ x.toInt < (ks.length : Int)) (pc' := pc + 1) (f := (L, .ref q1 :: S, h)) hM hf rfl (fun rec q' hq => ?_) (fun hP => hw hP.1 hP.2 q1 hk))
    have hq : (match zAal L (.int x :: .ref q :: S) h with
      | some f => some (pc + 1, f)
      | none => none) = some q' := hq
    unfold zAal at hq
    dsimp only at hq
    rw [hr] at hq
    dsimp only at hq
    have e1 : x.toNatClampNeg = x.toInt.toNat := rfl
    rw [e1, hk] at hq
    by_cases hc : x < 0 ∨ ks.length ≤ x.toInt.toNat
    · rw [if_pos hc] at hq
      cases hq
    · rw [if_neg hc] at hq
      rw [Int32.lt_iff_toInt_lt] at hc
      have hz : (0 : Int32).toInt = 0 := rfl
      rw [hz] at hc
      refine ⟨(Option.some.inj hq).symm, ?_⟩
      omega
theorem zQ_div {x y : Int32} (hM : zP[M]? = some e) (hf : zFind pc (zk e) = some .idiv) (hw : ¬ y = 0 → zQ n M (pc + 1) L (.int (x / y) :: S) h Q) : zQ n M pc L (.int y :: .int x :: S) h Q := by
  refine zQ_up (zQ_step (P := ¬ y = 0) (pc' := pc + 1) (f := (L, .int (x / y) :: S, h)) hM hf rfl (fun rec q hq => ?_) hw)
  have hq : (match (if y = 0 then none else some (L, Value.int (x / y) :: S, h) : Option zF) with
    | some f => some (pc + 1, f)
    | none => none) = some q := hq
  by_cases hc : y = 0
  · rw [if_pos hc] at hq; cases hq
  · rw [if_neg hc] at hq; exact ⟨(Option.some.inj hq).symm, hc⟩
theorem zQ_rem {x y : Int32} (hM : zP[M]? = some e) (hf : zFind pc (zk e) = some .irem) (hw : ¬ y = 0 → zQ n M (pc + 1) L (.int (x - x / y * y) :: S) h Q) : zQ n M pc L (.int y :: .int x :: S) h Q := by
  refine zQ_up (zQ_step (P := ¬ y = 0) (pc' := pc + 1) (f := (L, .int (x - x / y * y) :: S, h)) hM hf rfl (fun rec q hq => ?_) hw)
  have hq : (match (if y = 0 then none else some (L, Value.int (x - x / y * y) :: S, h) : Option zF) with
    | some f => some (pc + 1, f)
    | none => none) = some q := hq
  by_cases hc : y = 0
  · rw [if_pos hc] at hq; cases hq
  · rw [if_neg hc] at hq; exact ⟨(Option.some.inj hq).symm, hc⟩
theorem zQ_ldiv {x y : Int64} (hM : zP[M]? = some e) (hf : zFind pc (zk e) = some .ldiv) (hw : ¬ y = 0 → zQ n M (pc + 1) L (.long (x / y) :: S) h Q) : zQ n M pc L (.long y :: .long x :: S) h Q := by
  refine zQ_up (zQ_step (P := ¬ y = 0) (pc' := pc + 1) (f := (L, .long (x / y) :: S, h)) hM hf rfl (fun rec q hq => ?_) hw)
  have hq : (match (if y = 0 then none else some (L, Value.long (x / y) :: S, h) : Option zF) with
    | some f => some (pc + 1, f)
    | none => none) = some q := hq
  by_cases hc : y = 0
  · rw [if_pos hc] at hq; cases hq
  · rw [if_neg hc] at hq; exact ⟨(Option.some.inj hq).symm, hc⟩
theorem zQ_lrem {x y : Int64} (hM : zP[M]? = some e) (hf : zFind pc (zk e) = some .lrem) (hw : ¬ y = 0 → zQ n M (pc + 1) L (.long (x - x / y * y) :: S) h Q) : zQ n M pc L (.long y :: .long x :: S) h Q := by
  refine zQ_up (zQ_step (P := ¬ y = 0) (pc' := pc + 1) (f := (L, .long (x - x / y * y) :: S, h)) hM hf rfl (fun rec q hq => ?_) hw)
  have hq : (match (if y = 0 then none else some (L, Value.long (x - x / y * y) :: S, h) : Option zF) with
    | some f => some (pc + 1, f)
    | none => none) = some q := hq
  by_cases hc : y = 0
  · rw [if_pos hc] at hq; cases hq
  · rw [if_neg hc] at hq; exact ⟨(Option.some.inj hq).symm, hc⟩
/-- a field of one bit -/
theorem zQ_putb {k q : Nat} {fs : List (Option Nat)} {x : Int32} (hM : zP[M]? = some e) (hf : zFind pc (zk e) = some (.putfield k)) (hk : zFld (zo e) k = some (2, 0)) (hq : lay[q]? = some (.inl (2, fs))) (hs : fs[0]? = some none) (hw : zQ n M (pc + 3) L S (zSet h q 0 x) Q) : zQ n M pc L (.int x :: .ref q :: S) h Q := by
  refine zQ_up (zQ_step (P := True) (pc' := pc + 3) (f := (L, S, zSet h q 0 x)) hM hf rfl (fun rec q' hz => ?_) (fun _ => hw))
  have hz : (match zPut (zo e) k L (.int x :: .ref q :: S) h with
    | some f => some (pc + 3, f)
    | none => none) = some q' := hz
  unfold zPut at hz
  dsimp only at hz
  rw [hk] at hz
  dsimp only at hz
  rw [hq] at hz
  dsimp only at hz
  rw [show Nat.beq 2 2 = true from rfl] at hz
  dsimp only [cond] at hz
  rw [hs] at hz
  dsimp only at hz
  rw [show zIsB 2 0 = true from rfl] at hz
  dsimp only [cond] at hz
  by_cases hc : x = 0 ∨ x = 1
  · rw [if_pos hc] at hz; exact ⟨(Option.some.inj hz).symm, trivial⟩
  · rw [if_neg hc] at hz; cases hz
/-! ends -/
theorem zRet_I {ret : Option FieldType} {v : Int32} {r : Option Value} (hr : zRet ret .ireturn [.int v] = some r) : r = some (.int v) := by
  unfold zRet at hr
  dsimp only at hr
  split at hr
  · rename_i heq; cases heq; cases hr; rfl
  · rename_i heq
    cases heq
    split at hr
    · cases hr; rfl
    · cases hr
  · cases hr
theorem zRet_L {ret : Option FieldType} {v : Int64} {r : Option Value} (hr : zRet ret .lreturn [.long v] = some r) : r = some (.long v) := by
  unfold zRet at hr
  dsimp only at hr
  split at hr
  · rename_i heq; cases heq; cases hr; rfl
  · cases hr
theorem zQ_retI {v : Int32} (hM : zP[M]? = some e) (hf : zFind pc (zk e) = some .ireturn) (hw : Q (some (.int v)) h) : zQ n M pc L [.int v] h Q := by
  intro x m d rv h' hx hm hz
  cases hM.symm.trans hx
  cases m with
  | zero => unfold zExec at hz; cases hz
  | succ m =>
    unfold zExec at hz
    rw [hf] at hz
    dsimp only at hz
    cases hr : zRet (zr e) .ireturn [.int v] with
    | none =>
      rw [hr] at hz
      cases hz
    | some r =>
      rw [hr] at hz
      cases hz
      rw [zRet_I hr]
      exact hw
theorem zQ_retL {v : Int64} (hM : zP[M]? = some e) (hf : zFind pc (zk e) = some .lreturn) (hw : Q (some (.long v)) h) : zQ n M pc L [.long v] h Q := by
  intro x m d rv h' hx hm hz
  cases hM.symm.trans hx
  cases m with
  | zero => unfold zExec at hz; cases hz
  | succ m =>
    unfold zExec at hz
    rw [hf] at hz
    dsimp only at hz
    cases hr : zRet (zr e) .lreturn [.long v] with
    | none =>
      rw [hr] at hz
      cases hz
    | some r =>
      rw [hr] at hz
      cases hz
      rw [zRet_L hr]
      exact hw
theorem zQ_retV (hM : zP[M]? = some e) (hf : zFind pc (zk e) = some .return_) (hw : Q none h) : zQ n M pc L [] h Q := by
  intro x m d rv h' hx hm hz
  cases hM.symm.trans hx
  cases m with
  | zero => unfold zExec at hz; cases hz
  | succ m =>
    unfold zExec at hz
    rw [hf] at hz
    dsimp only at hz
    cases hr : zRet (zr e) .return_ [] with
    | none =>
      rw [hr] at hz
      cases hz
    | some r =>
      rw [hr] at hz
      cases hz
      unfold zRet at hr
      dsimp only at hr
      split at hr
      · cases hr; exact hw
      · cases hr
/-! calls -/
theorem zExec_ret {E : zSc} {o : Nat} {K : List (Nat × Instr)} {ret : Option FieldType} : ∀ {m d pc : Nat} {L : zLo} {S : List Value} {h : zH} {rv : Option Value} {h' : zH}, zExec E o K ret m d pc L S h = some (rv, h') → ∃ i S, zRet ret i S = some rv
  | 0, d, pc, L, S, h, rv, h', hz => by unfold zExec at hz; cases hz
  | m + 1, d, pc, L, S, h, rv, h', hz => by
    unfold zExec at hz
    split at hz
    · cases hz
    · rename_i i hf
      split at hz
      · rename_i r hr
        cases hz
        exact ⟨_, _, hr⟩
      · split at hz
        · cases hz
        · exact zExec_ret hz
theorem zRet_i {i : Instr} {S : List Value} {rv : Option Value} {ret : Option FieldType} (hr : ret = some .int ∨ ret = some .boolean) (hz : zRet ret i S = some rv) : ∃ v : Int32, rv = some (.int v) := by
  unfold zRet at hz
  split at hz
  · split at hz
    · cases hz; exact ⟨_, rfl⟩
    · split at hz
      · cases hz; exact ⟨_, rfl⟩
      · cases hz
    · cases hz
  · split at hz
    · rcases hr with hr | hr <;> cases hr
    · cases hz
  · split at hz
    · rcases hr with hr | hr <;> cases hr
    · cases hz
  · cases hz
theorem zRet_l {i : Instr} {S : List Value} {rv : Option Value} {ret : Option FieldType} (hr : ret = some .long) (hz : zRet ret i S = some rv) : ∃ v : Int64, rv = some (.long v) := by
  unfold zRet at hz
  split at hz
  · split at hz
    · cases hr
    · cases hr
    · cases hz
  · split at hz
    · cases hz; exact ⟨_, rfl⟩
    · cases hz
  · split at hz
    · cases hr
    · cases hz
  · cases hz
theorem zRet_v {i : Instr} {S : List Value} {rv : Option Value} {ret : Option FieldType} (hr : ret = none) (hz : zRet ret i S = some rv) : rv = none := by
  unfold zRet at hz
  split at hz
  · split at hz
    · cases hr
    · cases hr
    · cases hz
  · split at hz
    · cases hr
    · cases hz
  · split at hz
    · cases hz; rfl
    · cases hz
  · cases hz
/-- a call, whatever it answers -/
theorem zQ_call {i : Instr} {vir : Bool} {k M' : Nat} {e' : zE} {st : Bool} {w : Nat × Nat × Nat} (hM : zP[M]? = some e) (hf : zFind pc (zk e) = some i) (hi : aIsRet i = false) (hone : ∀ rec, zOne none rec (zo e) pc i L S h = match zCallK rec (zo e) vir k S h with
      | some r => some (pc + 3, L, r)
      | none => none)
    (hq : zFind k (zQT.getD (zo e) []) = some (M', st, w)) (hM' : zP[M']? = some e')
    (hw : zqm M' (S.take (zn e' + vir.toNat)).reverse h (fun rv h' => (∃ i S, zRet (zr e') i S = some rv) → zQ n M (pc + 3) L (rv.toList ++ S.drop (zn e' + vir.toNat)) h' Q)) : zQ n M pc L S h Q := by
  refine zQ_up ?_
  intro x m d rv h' hx hm hz
  cases hM.symm.trans hx
  cases m with
  | zero => unfold zExec at hz; cases hz
  | succ m =>
    unfold zExec at hz
    rw [hf] at hz
    dsimp only at hz
    rw [zRet_none hi] at hz
    dsimp only at hz
    rw [hone] at hz
    cases hc : zCallK (zSub m d) (zo e) vir k S h with
    | none => rw [hc] at hz; cases hz
    | some r =>
      rw [hc] at hz
      dsimp only at hz
      unfold zCallK at hc
      rw [hq] at hc
      dsimp only at hc
      cases hb : (st == vir) with
      | true => rw [hb] at hc; cases hc
      | false =>
        rw [hb] at hc
        dsimp only [cond] at hc
        rw [hM'] at hc
        dsimp only at hc
        split at hc
        · cases hc
        · split at hc
          · cases hc
          · rename_i rv1 h1 hr
            cases hc
            cases d with
            | zero => cases hr
            | succ d =>
              have hr : zRun m d M' 0 (zEnt (S.take (zn e' + vir.toNat)).reverse (zx e')) [] h = some (rv1, h1) := hr
              have hr2 := hr
              rw [zRun_eq hM'] at hr2
              exact hw e' m d rv1 h1 hM' hr (zExec_ret hr2) e m (d + 1) rv h' hM (Nat.le_of_succ_le_succ hm) hz
theorem zQ_cs {k M' : Nat} {e' : zE} {w : Nat × Nat × Nat} (hM : zP[M]? = some e) (hf : zFind pc (zk e) = some (.invokestatic k)) (ha : zFind k (zAT.getD (zo e) []) = none) (hq : zFind k (zQT.getD (zo e) []) = some (M', true, w)) (hM' : zP[M']? = some e')
    (hw : zqm M' (S.take (zn e')).reverse h (fun rv h' => (∃ i S, zRet (zr e') i S = some rv) → zQ n M (pc + 3) L (rv.toList ++ S.drop (zn e')) h' Q)) : zQ n M pc L S h Q := by
  refine zQ_call (vir := false) (k := k) hM hf rfl (fun rec => ?_) hq hM' hw
  unfold zOne
  dsimp only
  rw [ha]
  rfl
theorem zQ_csI {k M' : Nat} {e' : zE} {w : Nat × Nat × Nat} {as S' : List Value} (hM : zP[M]? = some e) (hf : zFind pc (zk e) = some (.invokestatic k)) (ha : zFind k (zAT.getD (zo e) []) = none) (hq : zFind k (zQT.getD (zo e) []) = some (M', true, w)) (hM' : zP[M']? = some e') (hr : zr e' = some .int ∨ zr e' = some .boolean) (hS : (S.take (zn e')).reverse = as) (hd : S.drop (zn e') = S')
    (hw : zqm M' as h (fun rv h' => zri rv (fun v => zQ n M (pc + 3) L (.int v :: S') h' Q))) : zQ n M pc L S h Q := by
  subst hS
  subst hd
  refine zQ_cs hM hf ha hq hM' (zqm_imp hw (fun rv h' hz hx => ?_))
  obtain ⟨i, S1, hx⟩ := hx
  obtain ⟨v, rfl⟩ := zRet_i hr hx
  exact hz
theorem zQ_csL {k M' : Nat} {e' : zE} {w : Nat × Nat × Nat} {as S' : List Value} (hM : zP[M]? = some e) (hf : zFind pc (zk e) = some (.invokestatic k)) (ha : zFind k (zAT.getD (zo e) []) = none) (hq : zFind k (zQT.getD (zo e) []) = some (M', true, w)) (hM' : zP[M']? = some e') (hr : zr e' = some .long) (hS : (S.take (zn e')).reverse = as) (hd : S.drop (zn e') = S')
    (hw : zqm M' as h (fun rv h' => zrl rv (fun v => zQ n M (pc + 3) L (.long v :: S') h' Q))) : zQ n M pc L S h Q := by
  subst hS
  subst hd
  refine zQ_cs hM hf ha hq hM' (zqm_imp hw (fun rv h' hz hx => ?_))
  obtain ⟨i, S1, hx⟩ := hx
  obtain ⟨v, rfl⟩ := zRet_l hr hx
  exact hz
theorem zQ_csV {k M' : Nat} {e' : zE} {w : Nat × Nat × Nat} {as S' : List Value} (hM : zP[M]? = some e) (hf : zFind pc (zk e) = some (.invokestatic k)) (ha : zFind k (zAT.getD (zo e) []) = none) (hq : zFind k (zQT.getD (zo e) []) = some (M', true, w)) (hM' : zP[M']? = some e') (hr : zr e' = none) (hS : (S.take (zn e')).reverse = as) (hd : S.drop (zn e') = S')
    (hw : zqm M' as h (fun _ h' => zQ n M (pc + 3) L S' h' Q)) : zQ n M pc L S h Q := by
  subst hS
  subst hd
  refine zQ_cs hM hf ha hq hM' (zqm_imp hw (fun rv h' hz hx => ?_))
  obtain ⟨i, S1, hx⟩ := hx
  have e1 := zRet_v hr hx
  subst e1
  exact hz
theorem zQ_cvI {k M' : Nat} {e' : zE} {w : Nat × Nat × Nat} {as S' : List Value} (hM : zP[M]? = some e) (hf : zFind pc (zk e) = some (.invokevirtual k)) (hq : zFind k (zQT.getD (zo e) []) = some (M', false, w)) (hM' : zP[M']? = some e') (hr : zr e' = some .int ∨ zr e' = some .boolean) (hS : (S.take (zn e' + 1)).reverse = as) (hd : S.drop (zn e' + 1) = S')
    (hw : zqm M' as h (fun rv h' => zri rv (fun v => zQ n M (pc + 3) L (.int v :: S') h' Q))) : zQ n M pc L S h Q := by
  subst hS
  subst hd
  refine zQ_call (vir := true) (k := k) hM hf rfl (fun rec => rfl) hq hM' (zqm_imp hw (fun rv h' hz hx => ?_))
  obtain ⟨i, S1, hx⟩ := hx
  obtain ⟨v, rfl⟩ := zRet_i hr hx
  exact hz
theorem zQ_cvV {k M' : Nat} {e' : zE} {w : Nat × Nat × Nat} {as S' : List Value} (hM : zP[M]? = some e) (hf : zFind pc (zk e) = some (.invokevirtual k)) (hq : zFind k (zQT.getD (zo e) []) = some (M', false, w)) (hM' : zP[M']? = some e') (hr : zr e' = none) (hS : (S.take (zn e' + 1)).reverse = as) (hd : S.drop (zn e' + 1) = S')
    (hw : zqm M' as h (fun _ h' => zQ n M (pc + 3) L S' h' Q)) : zQ n M pc L S h Q := by
  subst hS
  subst hd
  refine zQ_call (vir := true) (k := k) hM hf rfl (fun rec => rfl) hq hM' (zqm_imp hw (fun rv h' hz hx => ?_))
  obtain ⟨i, S1, hx⟩ := hx
  have e1 := zRet_v hr hx
  subst e1
  exact hz
/-- a part of a row, copied -/
def zCpy (h : zH) (q0 q1 sp dp k : Nat) : zH := (va_up h.1 q1 (va_cpy (h.1 q0) (h.1 q1) sp dp k), h.2)
theorem zQ_copy {k pos q0 q1 n0 n1 : Nat} {c sp dp : Int32} {i j l : Int} (hM : zP[M]? = some e) (hf : zFind pc (zk e) = some (.invokestatic k)) (ha : zFind k (zAT.getD (zo e) []) = some pos) (h0 : lay[q0]? = some (.inr (.inl n0))) (h1 : lay[q1]? = some (.inr (.inl n1))) (ei : sp.toInt = i) (ej : dp.toInt = j) (el : c.toInt = l)
    (hw : 0 ≤ i → 0 ≤ j → 0 ≤ l → i + l ≤ (n0 : Int) → j + l ≤ (n1 : Int) → zQ n M (pc + 3) L S (zCpy h q0 q1 i.toNat j.toNat l.toNat) Q) : zQ n M pc L (.int c :: .int dp :: .ref q1 :: .int sp :: .ref q0 :: S) h Q := by
  subst ei
  subst ej
  subst el
  refine zQ_up (zQ_step (P := 0 ≤ sp.toInt ∧ 0 ≤ dp.toInt ∧ 0 ≤ c.toInt ∧ sp.toInt + c.toInt ≤ (n0 : Int) ∧ dp.toInt + c.toInt ≤ (n1 : Int)) (pc' := pc + 3) (f := (L, S, zCpy h q0 q1 sp.toInt.toNat dp.toInt.toNat c.toInt.toNat)) hM hf rfl (fun rec q hq => ?_) (fun hP => hw hP.1 hP.2.1 hP.2.2.1 hP.2.2.2.1 hP.2.2.2.2))
  unfold zOne at hq
  dsimp only at hq
  rw [ha] at hq
  dsimp only at hq
  unfold zCopy at hq
  dsimp only at hq
  rw [h0, h1] at hq
  dsimp only at hq
  have a1 : sp.toNatClampNeg = sp.toInt.toNat := rfl
  have a2 : dp.toNatClampNeg = dp.toInt.toNat := rfl
  have a3 : c.toNatClampNeg = c.toInt.toNat := rfl
  have hz : (0 : Int32).toInt = 0 := rfl
  rw [a1, a2, a3] at hq
  split at hq
  · rename_i r hr
    by_cases hc : sp < 0 ∨ dp < 0 ∨ c < 0 ∨ n0 < sp.toInt.toNat + c.toInt.toNat ∨ n1 < dp.toInt.toNat + c.toInt.toNat ∨ 8 < zCat S
    · rw [if_pos hc] at hr; cases hr
    · rw [if_neg hc] at hr
      cases hr
      refine ⟨(Option.some.inj hq).symm, ?_⟩
      simp only [not_or, Int32.lt_iff_toInt_lt, hz] at hc
      omega
  · cases hq
end ZQ
/-! what a change leaves: readings -/
theorem sg1 {h : zH} {q j q' j' : Nat} {x : Int32} : (zSet h q j x).1 q' j' = if q' = q then (if j' = j then x else h.1 q' j') else h.1 q' j' := by
  by_cases hq : q' = q
  · subst hq
    rw [if_pos rfl]
    simp [zSet, va_up, upd]
  · rw [if_neg hq]
    simp [zSet, va_up, hq]
theorem sg2 {h : zH} {q j q' j' : Nat} {x : Int32} : (zSet h q j x).2 q' j' = h.2 q' j' := rfl
theorem sgl1 {h : zH} {q j q' j' : Nat} {x : Int64} : (zSetL h q j x).1 q' j' = h.1 q' j' := rfl
theorem sgl2 {h : zH} {q j q' j' : Nat} {x : Int64} : (zSetL h q j x).2 q' j' = if q' = q then (if j' = j then x else h.2 q' j') else h.2 q' j' := by
  by_cases hq : q' = q
  · subst hq
    rw [if_pos rfl]
    simp [zSetL, va_up, vp_updL]
  · rw [if_neg hq]
    simp [zSetL, va_up, hq]
theorem sgc1 {h : zH} {q0 q1 sp dp k q' j' : Nat} : (zCpy h q0 q1 sp dp k).1 q' j' = if q' = q1 then (if dp ≤ j' ∧ j' < dp + k then h.1 q0 (sp + (j' - dp)) else h.1 q' j') else h.1 q' j' := by
  by_cases hq : q' = q1
  · subst hq
    rw [if_pos rfl]
    simp [zCpy, va_up, va_cpy]
  · rw [if_neg hq]
    simp [zCpy, va_up, hq]
theorem sgc2 {h : zH} {q0 q1 sp dp k q' j' : Nat} : (zCpy h q0 q1 sp dp k).2 q' j' = h.2 q' j' := rfl
theorem zri_imp {rv : Option Value} {K K' : Int32 → Prop} (h : zri rv K) (hk : ∀ v, K v → K' v) : zri rv K' := by
  unfold zri at h ⊢
  split
  · exact hk _ h
  · trivial
theorem zrl_imp {rv : Option Value} {K K' : Int64 → Prop} (h : zrl rv K) (hk : ∀ v, K v → K' v) : zrl rv K' := by
  unfold zrl at h ⊢
  split
  · exact hk _ h
  · trivial
theorem zQ_zero {M pc : Nat} {L : zLo} {S : List Value} {h : zH} {Q : Option Value → zH → Prop} : zQ 0 M pc L S h Q := by
  intro x m d rv h' hx hm hz
  have e : m = 0 := Nat.le_zero.mp hm
  subst e
  unfold zExec at hz
  cases hz
theorem zQ_ialk {n M pc : Nat} {e : zE} {L : zLo} {S : List Value} {h : zH} {Q : Option Value → zH → Prop} {q N : Nat} {f : Nat → Int32} {x : Int32} (i : Nat) (hM : zP[M]? = some e) (hf : zFind pc (zk e) = some .iaload) (hr : zRow none q h = some (N, f)) (ex : x.toInt = (i : Int)) (hw : zQ n M (pc + 1) L (.int (f i) :: S) h Q) : zQ n M pc L (.int x :: .ref q :: S) h Q := zQ_ial hM hf hr ex (fun _ _ => hw)
theorem zQ_iask {n M pc : Nat} {e : zE} {L : zLo} {S : List Value} {h : zH} {Q : Option Value → zH → Prop} {q N : Nat} {x v : Int32} (i : Nat) (hM : zP[M]? = some e) (hf : zFind pc (zk e) = some .iastore) (hr : lay[q]? = some (.inr (.inl N))) (ex : x.toInt = (i : Int)) (hw : zQ n M (pc + 1) L S (zSet h q i v) Q) : zQ n M pc L (.int v :: .int x :: .ref q :: S) h Q := zQ_ias hM hf hr ex (fun _ _ => hw)
theorem zQ_lalk {n M pc : Nat} {e : zE} {L : zLo} {S : List Value} {h : zH} {Q : Option Value → zH → Prop} {q N : Nat} {x : Int32} (i : Nat) (hM : zP[M]? = some e) (hf : zFind pc (zk e) = some .laload) (hr : lay[q]? = some (.inr (.inr (.inl N)))) (ex : x.toInt = (i : Int)) (hw : zQ n M (pc + 1) L (.long (h.2 q i) :: S) h Q) : zQ n M pc L (.int x :: .ref q :: S) h Q := zQ_lal hM hf hr ex (fun _ _ => hw)
theorem zLsw_d {l : List (Int × Int)} {d k : Int} (hl : ∀ p ∈ l, ¬ k = p.1) : Op.lookupswitch.offset l d k = d := by
  induction l with
  | nil => rfl
  | cons p r ih =>
    obtain ⟨a, o⟩ := p
    rw [Op.lookupswitch.offset_cons, if_neg (fun z => hl (a, o) List.mem_cons_self z.symm)]
    exact ih (fun q hq => hl q (List.mem_cons_of_mem _ hq))
/-- the row that a number names -/
theorem zQ_row {n M pc : Nat} {e : zE} {L : zLo} {S : List Value} {h : zH} {Q : Option Value → zH → Prop} {x : Int32} (hM : zP[M]? = some e) (hf : zFind pc (zk e) = some .aaload) (hw : 0 ≤ x.toInt → x.toInt < 8 → lay[3 + x.toInt.toNat]? = some (.inr (.inl 40)) → zQ n M (pc + 1) L (.ref (3 + x.toInt.toNat) :: S) h Q) : zQ n M pc L (.int x :: .ref 2 :: S) h Q := by
  refine zQ_aal (q := 2) (t := 3) (ks := [3, 4, 5, 6, 7, 8, 9, 10]) hM hf rfl rfl (fun h0 h1 q' hq => ?_)
  have h1 : x.toInt < 8 := h1
  have e1 : x.toInt.toNat < 8 := by omega
  have e2 := wk_itemk (x := x) h0 h1
  have e3 : x.toNatClampNeg = x.toInt.toNat := rfl
  rw [e3] at e2
  cases e2.symm.trans hq
  exact hw h0 h1 (wk_item h0 h1)
theorem zQ_img {n M pc : Nat} {e : zE} {L : zLo} {S : List Value} {h : zH} {Q : Option Value → zH → Prop} {x : Int32} (hM : zP[M]? = some e) (hf : zFind pc (zk e) = some .aaload) (hw0 : x.toInt = 0 → zQ n M (pc + 1) L (.ref 31 :: S) h Q) (hw1 : x.toInt = 1 → zQ n M (pc + 1) L (.ref 39 :: S) h Q) : zQ n M pc L (.int x :: .ref 47 :: S) h Q := by
  refine zQ_aal (q := 47) (t := 2) (ks := [31, 39]) hM hf rfl rfl (fun h0 h1 q' hq => ?_)
  have h1 : x.toInt < 2 := h1
  by_cases hx : x.toInt = 0
  · rw [hx] at hq
    have hq : some 31 = some q' := hq
    cases hq
    exact hw0 hx
  · have hx : x.toInt = 1 := by omega
    rw [hx] at hq
    have hq : some 39 = some q' := hq
    cases hq
    exact hw1 hx

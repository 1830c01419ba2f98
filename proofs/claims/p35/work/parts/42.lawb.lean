/-! the law's loop, in the pure machine -/
abbrev lL (i : Int32) : zLo := [some (.ref 800), some (.ref 0), some (.ref 58), some (.int i)]
def lzw (N : Nat) (xs : Nat → Int32) (d pc : Nat) (L : zLo) (S : List Value) (h : zH) (Q : Option Value → zH → Prop) : Prop := zw (some (N, xs)) 14 zkL (some .boolean) d pc L S h Q
def lv0 (xs : Nat → Int32) (i : Int32) (j : Nat) : Value := .int (xs (i + Int32.ofInt (j : Int)).toNatClampNeg)
def lIn (N : Nat) (i : Int32) : Prop := ∀ j : Nat, 1 ≤ j → j ≤ 5 → ¬ (i + Int32.ofInt (j : Int) < 0 ∨ N ≤ (i + Int32.ofInt (j : Int)).toNatClampNeg)
def lIs (pc : Nat) (i : Instr) : Bool := decide (zFind pc zkL = some i)
theorem lIs_ok {pc : Nat} {i : Instr} (h : lIs pc i = true) : zFind pc zkL = some i := of_decide_eq_true h
def lArgC (pc j : Nat) : Bool := lIs pc (.aload_n 0) && lIs (pc + 1) (.iload_n 3) && lIs (pc + 2) (.iconst (j : Int)) && lIs (pc + 3) .iadd && lIs (pc + 4) .iaload && Nat.ble 1 j && Nat.ble j 5
def lArgsC : Nat → Nat → Nat → Bool
  | _, _, 0 => true
  | pc, j, n + 1 => lArgC pc j && lArgsC (pc + 5) (j + 1) n
def lAs (xs : Nat → Int32) (i : Int32) : Nat → Nat → List Value
  | _, 0 => []
  | j, n + 1 => lv0 xs i j :: lAs xs i (j + 1) n
def lCallC (pc k M r n : Nat) : Bool := lIs pc (.invokevirtual k) && (match zFind k (zQT.getD 14 []) with
  | some (M', st, _) => Nat.beq M' M && !st
  | none => false) && (match zP[M]? with
  | some e => Nat.beq (zn e) n && Nat.ble (n + 1) (zx e) && zRecv (zo e) [.ref r]
  | none => false)
def lBrC (o : lOp) : Bool := match o with
  | (p, n, ka, MA, kb, MB, kind, off) => lIs p (.aload_n 1) && lArgsC (p + 1) 1 n && lCallC (p + 1 + 5 * n) ka MA 0 n && match kind with
    | 0 => lIs (p + 1 + 5 * n + 3) .pop && lIs (p + 1 + 5 * n + 3 + 1) (.aload_n 2) && lArgsC (p + 1 + 5 * n + 3 + 1 + 1) 1 n && lCallC (p + 1 + 5 * n + 3 + 1 + 1 + 5 * n) kb MB 58 n && lIs (p + 1 + 5 * n + 3 + 1 + 1 + 5 * n + 3) .pop && lIs (p + 1 + 5 * n + 3 + 1 + 1 + 5 * n + 3 + 1) (.goto off) && decide (zTgt (p + 1 + 5 * n + 3 + 1 + 1 + 5 * n + 3 + 1) off = some lEnd)
    | 1 => lIs (p + 1 + 5 * n + 3) .pop2 && lIs (p + 1 + 5 * n + 3 + 1) (.aload_n 2) && lArgsC (p + 1 + 5 * n + 3 + 1 + 1) 1 n && lCallC (p + 1 + 5 * n + 3 + 1 + 1 + 5 * n) kb MB 58 n && lIs (p + 1 + 5 * n + 3 + 1 + 1 + 5 * n + 3) .pop2 && lIs (p + 1 + 5 * n + 3 + 1 + 1 + 5 * n + 3 + 1) (.goto off) && decide (zTgt (p + 1 + 5 * n + 3 + 1 + 1 + 5 * n + 3 + 1) off = some lEnd)
    | 2 => lIs (p + 1 + 5 * n + 3) (.aload_n 2) && lArgsC (p + 1 + 5 * n + 3 + 1) 1 n && lCallC (p + 1 + 5 * n + 3 + 1 + 5 * n) kb MB 58 n && lIs (p + 1 + 5 * n + 3 + 1 + 5 * n + 3) (.if_icmp .eq off) && decide (zTgt (p + 1 + 5 * n + 3 + 1 + 5 * n + 3) off = some lEnd)
    | _ => lIs (p + 1 + 5 * n + 3) (.aload_n 2) && lArgsC (p + 1 + 5 * n + 3 + 1) 1 n && lCallC (p + 1 + 5 * n + 3 + 1 + 5 * n) kb MB 58 n && lIs (p + 1 + 5 * n + 3 + 1 + 5 * n + 3) .lcmp && lIs (p + 1 + 5 * n + 3 + 1 + 5 * n + 3 + 1) (.ifCond .eq off) && decide (zTgt (p + 1 + 5 * n + 3 + 1 + 5 * n + 3 + 1) off = some lEnd)
theorem lBr_all : (lOps.all lBrC) = true := by decide +kernel
theorem lSw_all : ((List.range 34).all fun k => match lSw[k]?, lOps[k]? with
  | some off, some o => decide (zTgt lSwP off = some o.1)
  | _, _ => false) = true := by decide +kernel
/-! what the two answers must be, by what the law does with them -/
def lA (kind : Nat) (rv : Option Value) : Prop := match kind with
  | 0 => ∃ a : Int32, rv = some (.int a)
  | 1 => ∃ a : Int64, rv = some (.long a)
  | 2 => ∃ a : Int32, rv = some (.int a)
  | _ => ∃ a : Int64, rv = some (.long a)
def lAns (kind : Nat) (rv rv' : Option Value) : Prop := match kind with
  | 0 => ∃ a : Int32, rv' = some (.int a)
  | 1 => ∃ a : Int64, rv' = some (.long a)
  | 2 => ∃ a : Int32, rv = some (.int a) ∧ rv' = some (.int a)
  | _ => ∃ a : Int64, rv = some (.long a) ∧ rv' = some (.long a)
/-- a branch keeps J, and its answers are as the law wants them -/
def lSp (J : zH → Prop) (d : Nat) (o : lOp) : Prop := ∀ (as : List Value), as.length = o.2.1 → (∀ v ∈ as, ∃ u : Int32, v = .int u) → ∀ h, J h → zm d o.2.2.2.1 (.ref 0 :: as) h (fun rv h1 => lA o.2.2.2.2.2.2.1 rv ∧ zm d o.2.2.2.2.2.1 (.ref 58 :: as) h1 (fun rv' h2 => J h2 ∧ lAns o.2.2.2.2.2.2.1 rv rv'))
section LAW
variable {N : Nat} {xs : Nat → Int32} {d : Nat} {Q : Option Value → zH → Prop} {h : zH} {S : List Value}
theorem l_one {i : Instr} {pc pc' : Nat} {L : zLo} {f : zF} (hf : zFind pc zkL = some i) (hr : aIsRet i = false) (hs : zS (some (N, xs)) 14 pc i L S h = some (pc', f)) (hc : ∀ rec, zOne (some (N, xs)) rec 14 pc i L S h = zS (some (N, xs)) 14 pc i L S h) (hw : lzw N xs d pc' f.1 f.2.1 f.2.2 Q) : lzw N xs d pc L S h Q := zw_one hf (zRet_none hr) hs hc hw
theorem l_arr {i : Int32} {L : zLo} (hi : ¬ (i < 0 ∨ N ≤ i.toNatClampNeg)) : zIal (some (N, xs)) L (.int i :: .ref 800 :: S) h = some (L, .int (xs i.toNatClampNeg) :: S, h) := by
  show (if i < 0 ∨ N ≤ i.toNatClampNeg then none else some (L, Value.int (xs i.toNatClampNeg) :: S, h)) = _
  rw [if_neg hi]
theorem l_arg {pc j : Nat} {i : Int32} (hc : lArgC pc j = true) (hi : lIn N i) (hw : lzw N xs d (pc + 5) (lL i) (lv0 xs i j :: S) h Q) : lzw N xs d pc (lL i) S h Q := by
  unfold lArgC at hc
  simp only [Bool.and_eq_true] at hc
  obtain ⟨⟨⟨⟨⟨⟨c0, c1⟩, c2⟩, c3⟩, c4⟩, b1⟩, b2⟩ := hc
  refine l_one (pc' := pc + 1) (f := (lL i, .ref 800 :: S, h)) (lIs_ok c0) rfl rfl (fun _ => rfl) ?_
  refine l_one (pc' := pc + 2) (f := (lL i, .int i :: .ref 800 :: S, h)) (lIs_ok c1) rfl rfl (fun _ => rfl) ?_
  refine l_one (pc' := pc + 3) (f := (lL i, .int (Int32.ofInt (j : Int)) :: .int i :: .ref 800 :: S, h)) (lIs_ok c2) rfl rfl (fun _ => rfl) ?_
  refine l_one (pc' := pc + 4) (f := (lL i, .int (i + Int32.ofInt (j : Int)) :: .ref 800 :: S, h)) (lIs_ok c3) rfl rfl (fun _ => rfl) ?_
  refine l_one (pc' := pc + 5) (f := (lL i, lv0 xs i j :: S, h)) (lIs_ok c4) rfl ?_ (fun _ => rfl) hw
  show (match zIal (some (N, xs)) (lL i) (.int (i + Int32.ofInt (j : Int)) :: .ref 800 :: S) h with
    | some f => some (pc + 4 + 1, f)
    | none => none) = _
  rw [l_arr (hi j (Nat.le_of_ble_eq_true b1) (Nat.le_of_ble_eq_true b2))]
  rfl
theorem l_args {i : Int32} (hi : lIn N i) : ∀ (n pc j : Nat) (S : List Value), lArgsC pc j n = true → lzw N xs d (pc + 5 * n) (lL i) ((lAs xs i j n).reverse ++ S) h Q → lzw N xs d pc (lL i) S h Q
  | 0, pc, j, S, _, hw => hw
  | n + 1, pc, j, S, hc, hw => by
    unfold lArgsC at hc
    rw [Bool.and_eq_true] at hc
    refine l_arg hc.1 hi (l_args hi n (pc + 5) (j + 1) _ hc.2 ?_)
    have e : (lAs xs i j (n + 1)).reverse ++ S = (lAs xs i (j + 1) n).reverse ++ (lv0 xs i j :: S) := by
      show (lv0 xs i j :: lAs xs i (j + 1) n).reverse ++ S = _
      rw [List.reverse_cons, List.append_assoc]
      rfl
    rw [show pc + 5 + 5 * n = pc + 5 * (n + 1) by omega, ← e]
    exact hw
theorem lAs_len {i : Int32} : ∀ (n j : Nat), (lAs xs i j n).length = n
  | 0, _ => rfl
  | n + 1, j => by
    show (lAs xs i (j + 1) n).length + 1 = n + 1
    rw [lAs_len n (j + 1)]
theorem lAs_int {i : Int32} : ∀ (n j : Nat), ∀ v ∈ lAs xs i j n, ∃ u : Int32, v = .int u
  | 0, j, v, hv => by cases hv
  | n + 1, j, v, hv => by
    rcases List.mem_cons.mp (show v ∈ lv0 xs i j :: lAs xs i (j + 1) n from hv) with rfl | hv
    · exact ⟨_, rfl⟩
    · exact lAs_int n (j + 1) v hv
theorem lSl : ∀ as : List Value, (∀ v ∈ as, v.category ≠ 2) → (zSl as).length = as.length
  | [], _ => rfl
  | v :: as, hv => by
    have h1 : v.category ≠ 2 := hv v List.mem_cons_self
    have h2 := lSl as (fun w hw => hv w (List.mem_cons_of_mem _ hw))
    show ((if v.category = 2 then [some v, none] else [some v]) ++ zSl as).length = as.length + 1
    rw [if_neg h1, List.length_append, h2]
    show 1 + as.length = _
    omega
theorem l_call {pc k M r n : Nat} {L : zLo} (hc : lCallC pc k M r n = true) (as : List Value) (hl : as.length = n) (hv : ∀ v ∈ as, ∃ u : Int32, v = .int u) (hS : zCat S ≤ 8) (hw : zm d M (.ref r :: as) h (fun rv h' => lzw N xs (d + 1) (pc + 3) L (rv.toList ++ S) h' Q)) : lzw N xs (d + 1) pc L (as.reverse ++ .ref r :: S) h Q := by
  unfold lCallC at hc
  simp only [Bool.and_eq_true] at hc
  obtain ⟨⟨c0, c1⟩, c2⟩ := hc
  cases hq : zFind k (zQT.getD 14 []) with
  | none => rw [hq] at c1; cases c1
  | some q =>
    obtain ⟨M', st, w⟩ := q
    rw [hq] at c1
    simp only [Bool.and_eq_true, Bool.not_eq_true'] at c1
    obtain ⟨e1, e2⟩ := c1
    have e1 : M' = M := Nat.eq_of_beq_eq_true e1
    subst e1
    subst e2
    cases hM : zP[M']? with
    | none => rw [hM] at c2; cases c2
    | some e =>
      rw [hM] at c2
      simp only [Bool.and_eq_true] at c2
      obtain ⟨⟨f1, f2⟩, f3⟩ := c2
      have f1 : zn e = n := Nat.eq_of_beq_eq_true f1
      have f2 : n + 1 ≤ zx e := Nat.le_of_ble_eq_true f2
      have hrl : as.reverse.length = n := by rw [List.length_reverse, hl]
      have et : (as.reverse ++ .ref r :: S).take (zn e + Bool.toNat true) = as.reverse ++ [.ref r] := by
        rw [f1, show n + Bool.toNat true = as.reverse.length + 1 by rw [hrl]; rfl, List.take_length_add_append]
        rfl
      have ed : (as.reverse ++ .ref r :: S).drop (zn e + Bool.toNat true) = S := by
        rw [f1, show n + Bool.toNat true = as.reverse.length + 1 by rw [hrl]; rfl, List.drop_length_add_append]
        rfl
      have er : (as.reverse ++ [Value.ref r]).reverse = .ref r :: as := by rw [List.reverse_append, List.reverse_reverse]; rfl
      refine zw_call (vir := true) (k := k) (st := false) (lIs_ok c0) rfl (fun rec => rfl) hq rfl hM ?_ ?_
      · rw [et, ed, er]
        rintro (z | z | z | z)
        · rw [List.length_append, hrl, f1] at z
          have z : n + (S.length + 1) < n + 1 := z
          omega
        · omega
        · have z := z.2
          have f3 : zRecv (zo e) (.ref r :: as) = true := f3
          rw [f3] at z
          cases z
        · rw [lSl _ (fun v hv2 => by
            rcases List.mem_append.mp hv2 with hv2 | hv2
            · obtain ⟨u, rfl⟩ := hv v (List.mem_reverse.mp hv2)
              intro z2
              cases z2
            · rw [List.mem_singleton.mp hv2]
              intro z2
              cases z2), List.length_append, hrl] at z
          have z : zx e < n + 1 := z
          omega
      · rw [et, ed, er]
        exact hw
/-! the branches -/
theorem l_br0 {J : zH → Prop} {p n ka MA kb MB : Nat} {off : Int} {i : Int32} (hc : lBrC (p, n, ka, MA, kb, MB, 0, off) = true) (hs : lSp J d (p, n, ka, MA, kb, MB, 0, off)) (hi : lIn N i) (hJ : J h) (K : ∀ h', J h' → lzw N xs (d + 1) lEnd (lL i) [] h' Q) : lzw N xs (d + 1) p (lL i) [] h Q := by
  unfold lBrC at hc
  simp only [Bool.and_eq_true] at hc
  obtain ⟨⟨⟨c0, c1⟩, c2⟩, ⟨⟨⟨⟨⟨⟨c3, c4⟩, c5⟩, c6⟩, c7⟩, c8⟩, c9⟩⟩ := hc
  refine l_one (pc' := p + 1) (f := (lL i, [.ref 0], h)) (lIs_ok c0) rfl rfl (fun _ => rfl) ?_
  refine l_args hi n (p + 1) 1 _ c1 ?_
  refine l_call c2 (lAs xs i 1 n) (lAs_len n 1) (lAs_int n 1) (Nat.zero_le _) ?_
  refine zm_imp (hs (lAs xs i 1 n) (lAs_len n 1) (lAs_int n 1) h hJ) (fun rv h1 hr => ?_)
  obtain ⟨⟨a, rfl⟩, hr⟩ := hr
  refine l_one (pc' := p + 1 + 5 * n + 3 + 1) (f := (lL i, [], h1)) (lIs_ok c3) rfl rfl (fun _ => rfl) ?_
  refine l_one (pc' := p + 1 + 5 * n + 3 + 1 + 1) (f := (lL i, [.ref 58], h1)) (lIs_ok c4) rfl rfl (fun _ => rfl) ?_
  refine l_args hi n (p + 1 + 5 * n + 3 + 1 + 1) 1 _ c5 ?_
  refine l_call c6 (lAs xs i 1 n) (lAs_len n 1) (lAs_int n 1) (Nat.zero_le _) ?_
  refine zm_imp hr (fun rv' h2 hr2 => ?_)
  obtain ⟨hJ2, b, rfl⟩ := hr2
  refine l_one (pc' := p + 1 + 5 * n + 3 + 1 + 1 + 5 * n + 3 + 1) (f := (lL i, [], h2)) (lIs_ok c7) rfl rfl (fun _ => rfl) ?_
  refine l_one (pc' := lEnd) (f := (lL i, [], h2)) (lIs_ok c8) rfl ?_ (fun _ => rfl) (K h2 hJ2)
  show zGo (zTgt _ off) (lL i) [] h2 = _
  rw [of_decide_eq_true c9]
  rfl
theorem l_br1 {J : zH → Prop} {p n ka MA kb MB : Nat} {off : Int} {i : Int32} (hc : lBrC (p, n, ka, MA, kb, MB, 1, off) = true) (hs : lSp J d (p, n, ka, MA, kb, MB, 1, off)) (hi : lIn N i) (hJ : J h) (K : ∀ h', J h' → lzw N xs (d + 1) lEnd (lL i) [] h' Q) : lzw N xs (d + 1) p (lL i) [] h Q := by
  unfold lBrC at hc
  simp only [Bool.and_eq_true] at hc
  obtain ⟨⟨⟨c0, c1⟩, c2⟩, ⟨⟨⟨⟨⟨⟨c3, c4⟩, c5⟩, c6⟩, c7⟩, c8⟩, c9⟩⟩ := hc
  refine l_one (pc' := p + 1) (f := (lL i, [.ref 0], h)) (lIs_ok c0) rfl rfl (fun _ => rfl) ?_
  refine l_args hi n (p + 1) 1 _ c1 ?_
  refine l_call c2 (lAs xs i 1 n) (lAs_len n 1) (lAs_int n 1) (Nat.zero_le _) ?_
  refine zm_imp (hs (lAs xs i 1 n) (lAs_len n 1) (lAs_int n 1) h hJ) (fun rv h1 hr => ?_)
  obtain ⟨⟨a, rfl⟩, hr⟩ := hr
  refine l_one (pc' := p + 1 + 5 * n + 3 + 1) (f := (lL i, [], h1)) (lIs_ok c3) rfl rfl (fun _ => rfl) ?_
  refine l_one (pc' := p + 1 + 5 * n + 3 + 1 + 1) (f := (lL i, [.ref 58], h1)) (lIs_ok c4) rfl rfl (fun _ => rfl) ?_
  refine l_args hi n (p + 1 + 5 * n + 3 + 1 + 1) 1 _ c5 ?_
  refine l_call c6 (lAs xs i 1 n) (lAs_len n 1) (lAs_int n 1) (Nat.zero_le _) ?_
  refine zm_imp hr (fun rv' h2 hr2 => ?_)
  obtain ⟨hJ2, b, rfl⟩ := hr2
  refine l_one (pc' := p + 1 + 5 * n + 3 + 1 + 1 + 5 * n + 3 + 1) (f := (lL i, [], h2)) (lIs_ok c7) rfl rfl (fun _ => rfl) ?_
  refine l_one (pc' := lEnd) (f := (lL i, [], h2)) (lIs_ok c8) rfl ?_ (fun _ => rfl) (K h2 hJ2)
  show zGo (zTgt _ off) (lL i) [] h2 = _
  rw [of_decide_eq_true c9]
  rfl
theorem l_br2 {J : zH → Prop} {p n ka MA kb MB : Nat} {off : Int} {i : Int32} (hc : lBrC (p, n, ka, MA, kb, MB, 2, off) = true) (hs : lSp J d (p, n, ka, MA, kb, MB, 2, off)) (hi : lIn N i) (hJ : J h) (K : ∀ h', J h' → lzw N xs (d + 1) lEnd (lL i) [] h' Q) : lzw N xs (d + 1) p (lL i) [] h Q := by
  unfold lBrC at hc
  simp only [Bool.and_eq_true] at hc
  obtain ⟨⟨⟨c0, c1⟩, c2⟩, ⟨⟨⟨⟨c4, c5⟩, c6⟩, c8⟩, c9⟩⟩ := hc
  refine l_one (pc' := p + 1) (f := (lL i, [.ref 0], h)) (lIs_ok c0) rfl rfl (fun _ => rfl) ?_
  refine l_args hi n (p + 1) 1 _ c1 ?_
  refine l_call c2 (lAs xs i 1 n) (lAs_len n 1) (lAs_int n 1) (Nat.zero_le _) ?_
  refine zm_imp (hs (lAs xs i 1 n) (lAs_len n 1) (lAs_int n 1) h hJ) (fun rv h1 hr => ?_)
  obtain ⟨⟨a, rfl⟩, hr⟩ := hr
  refine l_one (pc' := p + 1 + 5 * n + 3 + 1) (f := (lL i, [.ref 58, .int a], h1)) (lIs_ok c4) rfl rfl (fun _ => rfl) ?_
  refine l_args hi n (p + 1 + 5 * n + 3 + 1) 1 _ c5 ?_
  refine l_call (S := [.int a]) c6 (lAs xs i 1 n) (lAs_len n 1) (lAs_int n 1) (by show 1 ≤ 8; omega) ?_
  refine zm_imp hr (fun rv' h2 hr2 => ?_)
  obtain ⟨hJ2, b, e1, rfl⟩ := hr2
  cases e1
  refine l_one (pc' := lEnd) (f := (lL i, [], h2)) (lIs_ok c8) rfl ?_ (fun _ => rfl) (K h2 hJ2)
  show (match zTgt _ off with
    | some t => some (bif zc2 .eq a a then t else _, lL i, [], h2)
    | none => none) = _
  rw [of_decide_eq_true c9]
  show some (bif decide (a = a) then lEnd else _, lL i, [], h2) = _
  rw [decide_eq_true rfl]
  rfl
theorem l_br {J : zH → Prop} {o : lOp} {i : Int32} (ho : o.2.2.2.2.2.2.1 < 3) (hc : lBrC o = true) (hs : lSp J d o) (hi : lIn N i) (hJ : J h) (K : ∀ h', J h' → lzw N xs (d + 1) lEnd (lL i) [] h' Q) : lzw N xs (d + 1) o.1 (lL i) [] h Q := by
  obtain ⟨p, n, ka, MA, kb, MB, kind, off⟩ := o
  have ho : kind < 3 := ho
  have h3 : kind = 0 ∨ kind = 1 ∨ kind = 2 := by omega
  rcases h3 with rfl | rfl | rfl
  · exact l_br0 hc hs hi hJ K
  · exact l_br1 hc hs hi hJ K
  · exact l_br2 hc hs hi hJ K
theorem lOfI (j : Nat) (h1 : 1 ≤ j) (h5 : j ≤ 5) : (Int32.ofInt (j : Int)).toInt = (j : Int) := by
  have h3 : j = 1 ∨ j = 2 ∨ j = 3 ∨ j = 4 ∨ j = 5 := by omega
  rcases h3 with rfl | rfl | rfl | rfl | rfl <;> decide
theorem lIn_of {i : Int32} (h0 : 0 ≤ i.toInt) (h6 : i.toInt + 6 ≤ (N : Int)) (hN : N ≤ 3072) : lIn N i := by
  intro j j1 j5
  have e := lOfI j j1 j5
  have e2 : (i + Int32.ofInt (j : Int)).toInt = i.toInt + j := by rw [Jvm.Kit.i32_add (by omega) (by omega), e]
  exact gIdx (by omega) (by omega)
set_option maxRecDepth 100000 in
theorem l_loop {J : zH → Prop} (hk : ∀ o ∈ lOps, o.2.2.2.2.2.2.1 < 3) (hops : ∀ o ∈ lOps, lSp J d o) (hN : N ≤ 3072) : ∀ (f : Nat) (i : Int32) (h : zH), (N : Int) - i.toInt ≤ (f : Int) → 0 ≤ i.toInt → i.toInt ≤ 3078 → J h → lzw N xs (d + 1) lHead (lL i) [] h (fun rv _ => rv = some (.int 1)) := by
  have e6 : (Int8.ofInt 6).toInt32 = (6 : Int32) := by decide
  have eN : (Int32.ofNat N).toInt = (N : Int) := by
    rw [Int32.toInt_ofNat_of_lt (by omega)]
  have eS : (Int32.ofNat N - 6).toInt = (N : Int) - 6 := by
    rw [Jvm.Kit.i32_sub (by rw [eN]; show _ ≤ (N : Int) - 6; omega) (by rw [eN]; show (N : Int) - 6 < 2 ^ 31; omega), eN]
    rfl
  intro f
  induction f with
  | zero =>
    intro i h hf h0 h9 hJ
    refine l_one (i := .iload_n 3) (pc' := 19) (f := (lL i, [.int i], h)) rfl rfl rfl (fun _ => rfl) ?_
    refine l_one (i := .aload_n 0) (pc' := 20) (f := (lL i, [.ref 800, .int i], h)) rfl rfl rfl (fun _ => rfl) ?_
    refine l_one (i := .arraylength) (pc' := 21) (f := (lL i, [.int (Int32.ofNat N), .int i], h)) rfl rfl rfl (fun _ => rfl) ?_
    refine l_one (i := .bipush 6) (pc' := 23) (f := (lL i, [.int (Int8.ofInt 6).toInt32, .int (Int32.ofNat N), .int i], h)) rfl rfl rfl (fun _ => rfl) ?_
    refine l_one (i := .isub) (pc' := 24) (f := (lL i, [.int (Int32.ofNat N - (Int8.ofInt 6).toInt32), .int i], h)) rfl rfl rfl (fun _ => rfl) ?_
    have hgt : decide (Int32.ofNat N - (Int8.ofInt 6).toInt32 < i) = true := by
      rw [e6]
      refine decide_eq_true ?_
      rw [Int32.lt_iff_toInt_lt, eS]
      have hf : (N : Int) - i.toInt ≤ 0 := hf
      omega
    refine l_one (i := .if_icmp .gt 1148) (pc' := 1172) (f := (lL i, [], h)) rfl rfl ?_ (fun _ => rfl) ?_
    · show some (bif decide (Int32.ofNat N - (Int8.ofInt 6).toInt32 < i) then 1172 else 27, lL i, [], h) = _
      rw [hgt]
      rfl
    refine l_one (i := .iconst 1) (pc' := 1173) (f := (lL i, [.int (Int32.ofInt 1)], h)) rfl rfl rfl (fun _ => rfl) ?_
    exact zw_ret (i := .ireturn) (rv := some (.int (Int32.ofInt 1))) rfl rfl rfl
  | succ f ih =>
    intro i h hf h0 h9 hJ
    refine l_one (i := .iload_n 3) (pc' := 19) (f := (lL i, [.int i], h)) rfl rfl rfl (fun _ => rfl) ?_
    refine l_one (i := .aload_n 0) (pc' := 20) (f := (lL i, [.ref 800, .int i], h)) rfl rfl rfl (fun _ => rfl) ?_
    refine l_one (i := .arraylength) (pc' := 21) (f := (lL i, [.int (Int32.ofNat N), .int i], h)) rfl rfl rfl (fun _ => rfl) ?_
    refine l_one (i := .bipush 6) (pc' := 23) (f := (lL i, [.int (Int8.ofInt 6).toInt32, .int (Int32.ofNat N), .int i], h)) rfl rfl rfl (fun _ => rfl) ?_
    refine l_one (i := .isub) (pc' := 24) (f := (lL i, [.int (Int32.ofNat N - (Int8.ofInt 6).toInt32), .int i], h)) rfl rfl rfl (fun _ => rfl) ?_
    cases hgt : decide (Int32.ofNat N - (Int8.ofInt 6).toInt32 < i) with
    | true =>
      refine l_one (i := .if_icmp .gt 1148) (pc' := 1172) (f := (lL i, [], h)) rfl rfl ?_ (fun _ => rfl) ?_
      · show some (bif decide (Int32.ofNat N - (Int8.ofInt 6).toInt32 < i) then 1172 else 27, lL i, [], h) = _
        rw [hgt]
        rfl
      refine l_one (i := .iconst 1) (pc' := 1173) (f := (lL i, [.int (Int32.ofInt 1)], h)) rfl rfl rfl (fun _ => rfl) ?_
      exact zw_ret (i := .ireturn) (rv := some (.int (Int32.ofInt 1))) rfl rfl rfl
    | false =>
      have hle : i.toInt + 6 ≤ (N : Int) := by
        have z := of_decide_eq_false hgt
        rw [e6, Int32.lt_iff_toInt_lt, eS] at z
        omega
      have hin := lIn_of h0 hle hN
      have hi0 : ¬ (i < 0 ∨ N ≤ i.toNatClampNeg) := gIdx h0 (by omega)
      refine l_one (i := .if_icmp .gt 1148) (pc' := 27) (f := (lL i, [], h)) rfl rfl ?_ (fun _ => rfl) ?_
      · show some (bif decide (Int32.ofNat N - (Int8.ofInt 6).toInt32 < i) then 1172 else 27, lL i, [], h) = _
        rw [hgt]
        rfl
      refine l_one (i := .aload_n 0) (pc' := 28) (f := (lL i, [.ref 800], h)) rfl rfl rfl (fun _ => rfl) ?_
      refine l_one (i := .iload_n 3) (pc' := 29) (f := (lL i, [.int i, .ref 800], h)) rfl rfl rfl (fun _ => rfl) ?_
      refine l_one (i := .iaload) (pc' := 30) (f := (lL i, [.int (xs i.toNatClampNeg)], h)) rfl rfl ?_ (fun _ => rfl) ?_
      · show (match zIal (some (N, xs)) (lL i) (.int i :: .ref 800 :: []) h with
          | some f => some (29 + 1, f)
          | none => none) = _
        rw [l_arr hi0]
      refine l_one (i := .bipush 63) (pc' := 32) (f := (lL i, [.int (Int8.ofInt 63).toInt32, .int (xs i.toNatClampNeg)], h)) rfl rfl rfl (fun _ => rfl) ?_
      refine l_one (i := .iand) (pc' := 33) (f := (lL i, [.int (xs i.toNatClampNeg &&& (Int8.ofInt 63).toInt32)], h)) rfl rfl rfl (fun _ => rfl) ?_
      generalize (xs i.toNatClampNeg &&& (Int8.ofInt 63).toInt32) = x
      have hend : ∀ h', J h' → lzw N xs (d + 1) lEnd (lL i) [] h' (fun rv _ => rv = some (.int 1)) := by
        intro h' hJ'
        have e66 : (i + Int32.ofInt 6).toInt = i.toInt + 6 := by rw [Jvm.Kit.i32_add (by show _ ≤ i.toInt + 6; omega) (by show i.toInt + 6 < 2 ^ 31; omega)]; rfl
        refine l_one (i := .iinc 3 6) (pc' := 1169) (f := (lL (i + Int32.ofInt 6), [], h')) rfl rfl rfl (fun _ => rfl) ?_
        refine l_one (i := .goto (-1151)) (pc' := 18) (f := (lL (i + Int32.ofInt 6), [], h')) rfl rfl rfl (fun _ => rfl) ?_
        exact ih (i + Int32.ofInt 6) h' (by rw [e66]; have hf : (N : Int) - i.toInt ≤ (f : Int) + 1 := hf; omega) (by rw [e66]; omega) (by rw [e66]; omega) hJ'
      by_cases hx : x.toInt < 0 ∨ 33 < x.toInt
      · refine l_one (i := .tableswitch lDf 0 33 lSw) (pc' := lEnd) (f := (lL i, [], h)) rfl rfl ?_ (fun _ => rfl) (hend h hJ)
        show (if x.toInt < 0 ∨ 33 < x.toInt then zGo (zTgt lSwP lDf) (lL i) [] h else _) = _
        rw [if_pos hx]
        rfl
      · have hk1 : (x.toInt - 0).toNat < 34 := by omega
        have hT := List.all_eq_true.mp lSw_all _ (List.mem_range.mpr hk1)
        cases hs1 : lSw[(x.toInt - 0).toNat]? with
        | none => rw [hs1] at hT; cases hT
        | some off =>
          cases ho : lOps[(x.toInt - 0).toNat]? with
          | none => rw [hs1, ho] at hT; cases hT
          | some o =>
            rw [hs1, ho] at hT
            have hT : zTgt lSwP off = some o.1 := of_decide_eq_true hT
            have hmo := List.mem_of_getElem? ho
            refine l_one (i := .tableswitch lDf 0 33 lSw) (pc' := o.1) (f := (lL i, [], h)) rfl rfl ?_ (fun _ => rfl) (l_br (hk o hmo) (List.all_eq_true.mp lBr_all o hmo) (hops o hmo) hin hJ hend)
            show (if x.toInt < 0 ∨ 33 < x.toInt then zGo (zTgt lSwP lDf) (lL i) [] h else match lSw[(x.toInt - 0).toNat]? with
              | some off => zGo (zTgt lSwP off) (lL i) [] h
              | none => none) = _
            rw [if_neg hx, hs1]
            show zGo (zTgt lSwP off) (lL i) [] h = _
            rw [hT]
            rfl
end LAW

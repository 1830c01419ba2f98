/-! quarrel: from where its four numbers are known to where it divides -/
theorem zwM_callS {d M pc : Nat} {e e' : zE} {k M' : Nat} {w : Nat × Nat × Nat} {L : zLo} {S : List Value} {h : zH} {Q : Option Value → zH → Prop} (hM : zP[M]? = some e) (hf : zFind pc (zk e) = some (.invokestatic k)) (ha : zFind k (zAT.getD (zo e) []) = none) (hq : zFind k (zQT.getD (zo e) []) = some (M', true, w)) (hM' : zP[M']? = some e') (hc : (Nat.blt S.length (zn e') || Nat.blt 8 (zCat (S.drop (zn e'))) || Nat.blt (zx e') (zSl (S.take (zn e'))).length) = false) (hw : zm d M' (S.take (zn e')).reverse h (fun rv h' => zwM (d + 1) M (pc + 3) L (rv.toList ++ S.drop (zn e')) h' Q)) : zwM (d + 1) M pc L S h Q := by
  simp only [Bool.or_eq_false_iff] at hc
  have nb : ∀ {a b : Nat}, Nat.blt a b = false → ¬ a < b := fun {a b} hh z => by rw [zlt z] at hh; cases hh
  refine ⟨e, hM, zw_call (vir := false) hf rfl (fun rec => ?_) hq rfl hM' ?_ ?_⟩
  · unfold zOne
    dsimp only
    rw [ha]
    rfl
  · rintro (z | z | z | z)
    · exact nb hc.1.1 z
    · exact nb hc.1.2 z
    · cases z.1
    · exact nb hc.2 z
  · refine zm_imp hw (fun rv h' hr => ?_)
    obtain ⟨e2, he2, hw2⟩ := hr
    cases hM.symm.trans he2
    exact hw2
theorem lOk_n {P : List (Option aP)} {L : zLo} (h : lOkP (none :: P) L) : ∃ v L', L = v :: L' ∧ lOkP P L' := by
  cases L with
  | nil => exact h.elim
  | cons v L => exact ⟨v, L, rfl, h⟩
theorem lOk_s {p : aP} {P : List (Option aP)} {L : zLo} (h : lOkP (some p :: P) L) : ∃ v L', L = some v :: L' ∧ pOk p v ∧ lOkP P L' := by
  cases L with
  | nil => exact h.elim
  | cons v L =>
    cases v with
    | none => exact h.elim
    | some v => exact ⟨v, L, rfl, h.1, h.2⟩
theorem lOk_z {L : zLo} (h : lOkP [] L) : L = [] := by
  cases L with
  | nil => rfl
  | cons v L => exact h.elim
theorem less_int (a b : Int32) : (if a < b then a else b).toInt = min a.toInt b.toInt := by
  by_cases h : a < b
  · rw [if_pos h]; rw [Int32.lt_iff_toInt_lt] at h; omega
  · rw [if_neg h]; rw [Int32.lt_iff_toInt_lt] at h; omega
theorem great_int (a b : Int32) : (if b < a then a else b).toInt = max a.toInt b.toInt := by
  by_cases h : b < a
  · rw [if_pos h]; rw [Int32.lt_iff_toInt_lt] at h; omega
  · rw [if_neg h]; rw [Int32.lt_iff_toInt_lt] at h; omega
abbrev q145 : List (Option aP) := [none, none, none, some (.inl (false, 0, 1, false)), none, none, none, some (.inl (false, (-20), 20, false)), some (.inl (false, (-20), 20, false)), some (.inl (false, (-20), 20, false)), some (.inl (false, (-20), 20, false)), none, none, none, none, none, none, none, none]
abbrev q243 : List (Option aP) := [none, none, none, some (.inl (false, 0, 1, false)), none, none, none, none, none, none, none, none, none, some (.inl (true, lMin, lMax, false)), none, some (.inl (true, lMin, lMax, true)), none, none, none]
set_option maxHeartbeats 2000000 in
theorem quar_mid (d : Nat) (h : zH) (Q : Option Value → zH → Prop) (L : zLo) (hl : lOkP q145 L) (K : ∀ L' : zLo, lOkP q243 L' → zwM (d + 1) 196 243 L' [] h Q) : zwM (d + 1) 196 145 L [] h Q := by
  have h0 := hl
  obtain ⟨x0, L0, rfl, h1⟩ := lOk_n h0
  obtain ⟨x1, L1, rfl, h2⟩ := lOk_n h1
  obtain ⟨x2, L2, rfl, h3⟩ := lOk_n h2
  obtain ⟨v3, L3, rfl, p3, h4⟩ := lOk_s h3
  obtain ⟨w, rfl, w1, w2, -⟩ := p3
  obtain ⟨x4, L4, rfl, h5⟩ := lOk_n h4
  obtain ⟨x5, L5, rfl, h6⟩ := lOk_n h5
  obtain ⟨x6, L6, rfl, h7⟩ := lOk_n h6
  obtain ⟨v7, L7, rfl, p7, h8⟩ := lOk_s h7
  obtain ⟨a, rfl, a1, a2, -⟩ := p7
  obtain ⟨v8, L8, rfl, p8, h9⟩ := lOk_s h8
  obtain ⟨b, rfl, b1, b2, -⟩ := p8
  obtain ⟨v9, L9, rfl, p9, h10⟩ := lOk_s h9
  obtain ⟨c, rfl, c1, c2, -⟩ := p9
  obtain ⟨v10, L10, rfl, p10, h11⟩ := lOk_s h10
  obtain ⟨dd, rfl, dd1, dd2, -⟩ := p10
  obtain ⟨x11, L11, rfl, h12⟩ := lOk_n h11
  obtain ⟨x12, L12, rfl, h13⟩ := lOk_n h12
  obtain ⟨x13, L13, rfl, h14⟩ := lOk_n h13
  obtain ⟨x14, L14, rfl, h15⟩ := lOk_n h14
  obtain ⟨x15, L15, rfl, h16⟩ := lOk_n h15
  obtain ⟨x16, L16, rfl, h17⟩ := lOk_n h16
  obtain ⟨x17, L17, rfl, h18⟩ := lOk_n h17
  obtain ⟨x18, L18, rfl, h19⟩ := lOk_n h18
  have e19 := lOk_z h19
  subst e19
  show zwM (d + 1) 196 145 [x0, x1, x2, some (.int w), x4, x5, x6, some (.int a), some (.int b), some (.int c), some (.int dd), x11, x12, x13, x14, x15, x16, x17, x18] [] h Q
  refine zwM_one (i := .iload 7) (e := zm_196) rfl rfl rfl rfl (fun _ => rfl) ?_
  show zwM (d + 1) 196 147 [x0, x1, x2, some (.int w), x4, x5, x6, some (.int a), some (.int b), some (.int c), some (.int dd), x11, x12, x13, x14, x15, x16, x17, x18] [.int a] h Q
  refine zwM_one (i := .iload 8) (e := zm_196) rfl rfl rfl rfl (fun _ => rfl) ?_
  show zwM (d + 1) 196 149 [x0, x1, x2, some (.int w), x4, x5, x6, some (.int a), some (.int b), some (.int c), some (.int dd), x11, x12, x13, x14, x15, x16, x17, x18] [.int b, .int a] h Q
  refine zwM_callS (e := zm_196) (M' := 198) (e' := zm_198) rfl rfl rfl rfl rfl rfl ?_
  refine zm_imp (lesser_ok d h a b) (fun rv h' hr => ?_)
  obtain ⟨e8, e9⟩ := hr
  rw [e8, e9]
  show zwM (d + 1) 196 152 [x0, x1, x2, some (.int w), x4, x5, x6, some (.int a), some (.int b), some (.int c), some (.int dd), x11, x12, x13, x14, x15, x16, x17, x18] [.int (if a < b then a else b)] h Q
  generalize em1 : (if a < b then a else b) = m1
  show zwM (d + 1) 196 152 [x0, x1, x2, some (.int w), x4, x5, x6, some (.int a), some (.int b), some (.int c), some (.int dd), x11, x12, x13, x14, x15, x16, x17, x18] [.int m1] h Q
  refine zwM_one (i := .iload 9) (e := zm_196) rfl rfl rfl rfl (fun _ => rfl) ?_
  show zwM (d + 1) 196 154 [x0, x1, x2, some (.int w), x4, x5, x6, some (.int a), some (.int b), some (.int c), some (.int dd), x11, x12, x13, x14, x15, x16, x17, x18] [.int c, .int m1] h Q
  refine zwM_one (i := .iload 10) (e := zm_196) rfl rfl rfl rfl (fun _ => rfl) ?_
  show zwM (d + 1) 196 156 [x0, x1, x2, some (.int w), x4, x5, x6, some (.int a), some (.int b), some (.int c), some (.int dd), x11, x12, x13, x14, x15, x16, x17, x18] [.int dd, .int c, .int m1] h Q
  refine zwM_callS (e := zm_196) (M' := 198) (e' := zm_198) rfl rfl rfl rfl rfl rfl ?_
  refine zm_imp (lesser_ok d h c dd) (fun rv h' hr => ?_)
  obtain ⟨e8, e9⟩ := hr
  rw [e8, e9]
  show zwM (d + 1) 196 159 [x0, x1, x2, some (.int w), x4, x5, x6, some (.int a), some (.int b), some (.int c), some (.int dd), x11, x12, x13, x14, x15, x16, x17, x18] [.int (if c < dd then c else dd), .int m1] h Q
  generalize em2 : (if c < dd then c else dd) = m2
  show zwM (d + 1) 196 159 [x0, x1, x2, some (.int w), x4, x5, x6, some (.int a), some (.int b), some (.int c), some (.int dd), x11, x12, x13, x14, x15, x16, x17, x18] [.int m2, .int m1] h Q
  refine zwM_callS (e := zm_196) (M' := 197) (e' := zm_197) rfl rfl rfl rfl rfl rfl ?_
  refine zm_imp (greater_ok d h m1 m2) (fun rv h' hr => ?_)
  obtain ⟨e8, e9⟩ := hr
  rw [e8, e9]
  show zwM (d + 1) 196 162 [x0, x1, x2, some (.int w), x4, x5, x6, some (.int a), some (.int b), some (.int c), some (.int dd), x11, x12, x13, x14, x15, x16, x17, x18] [.int (if m2 < m1 then m1 else m2)] h Q
  generalize emo : (if m2 < m1 then m1 else m2) = mo
  show zwM (d + 1) 196 162 [x0, x1, x2, some (.int w), x4, x5, x6, some (.int a), some (.int b), some (.int c), some (.int dd), x11, x12, x13, x14, x15, x16, x17, x18] [.int mo] h Q
  refine zwM_one (i := .istore 11) (e := zm_196) rfl rfl rfl rfl (fun _ => rfl) ?_
  show zwM (d + 1) 196 164 [x0, x1, x2, some (.int w), x4, x5, x6, some (.int a), some (.int b), some (.int c), some (.int dd), some (.int mo), x12, x13, x14, x15, x16, x17, x18] [] h Q
  refine zwM_one (i := .iload 7) (e := zm_196) rfl rfl rfl rfl (fun _ => rfl) ?_
  show zwM (d + 1) 196 166 [x0, x1, x2, some (.int w), x4, x5, x6, some (.int a), some (.int b), some (.int c), some (.int dd), some (.int mo), x12, x13, x14, x15, x16, x17, x18] [.int a] h Q
  refine zwM_one (i := .iload 9) (e := zm_196) rfl rfl rfl rfl (fun _ => rfl) ?_
  show zwM (d + 1) 196 168 [x0, x1, x2, some (.int w), x4, x5, x6, some (.int a), some (.int b), some (.int c), some (.int dd), some (.int mo), x12, x13, x14, x15, x16, x17, x18] [.int c, .int a] h Q
  refine zwM_callS (e := zm_196) (M' := 197) (e' := zm_197) rfl rfl rfl rfl rfl rfl ?_
  refine zm_imp (greater_ok d h a c) (fun rv h' hr => ?_)
  obtain ⟨e8, e9⟩ := hr
  rw [e8, e9]
  show zwM (d + 1) 196 171 [x0, x1, x2, some (.int w), x4, x5, x6, some (.int a), some (.int b), some (.int c), some (.int dd), some (.int mo), x12, x13, x14, x15, x16, x17, x18] [.int (if c < a then a else c)] h Q
  generalize em3 : (if c < a then a else c) = m3
  show zwM (d + 1) 196 171 [x0, x1, x2, some (.int w), x4, x5, x6, some (.int a), some (.int b), some (.int c), some (.int dd), some (.int mo), x12, x13, x14, x15, x16, x17, x18] [.int m3] h Q
  refine zwM_one (i := .iload 8) (e := zm_196) rfl rfl rfl rfl (fun _ => rfl) ?_
  show zwM (d + 1) 196 173 [x0, x1, x2, some (.int w), x4, x5, x6, some (.int a), some (.int b), some (.int c), some (.int dd), some (.int mo), x12, x13, x14, x15, x16, x17, x18] [.int b, .int m3] h Q
  refine zwM_one (i := .iload 10) (e := zm_196) rfl rfl rfl rfl (fun _ => rfl) ?_
  show zwM (d + 1) 196 175 [x0, x1, x2, some (.int w), x4, x5, x6, some (.int a), some (.int b), some (.int c), some (.int dd), some (.int mo), x12, x13, x14, x15, x16, x17, x18] [.int dd, .int b, .int m3] h Q
  refine zwM_callS (e := zm_196) (M' := 197) (e' := zm_197) rfl rfl rfl rfl rfl rfl ?_
  refine zm_imp (greater_ok d h b dd) (fun rv h' hr => ?_)
  obtain ⟨e8, e9⟩ := hr
  rw [e8, e9]
  show zwM (d + 1) 196 178 [x0, x1, x2, some (.int w), x4, x5, x6, some (.int a), some (.int b), some (.int c), some (.int dd), some (.int mo), x12, x13, x14, x15, x16, x17, x18] [.int (if dd < b then b else dd), .int m3] h Q
  generalize em4 : (if dd < b then b else dd) = m4
  show zwM (d + 1) 196 178 [x0, x1, x2, some (.int w), x4, x5, x6, some (.int a), some (.int b), some (.int c), some (.int dd), some (.int mo), x12, x13, x14, x15, x16, x17, x18] [.int m4, .int m3] h Q
  refine zwM_callS (e := zm_196) (M' := 198) (e' := zm_198) rfl rfl rfl rfl rfl rfl ?_
  refine zm_imp (lesser_ok d h m3 m4) (fun rv h' hr => ?_)
  obtain ⟨e8, e9⟩ := hr
  rw [e8, e9]
  show zwM (d + 1) 196 181 [x0, x1, x2, some (.int w), x4, x5, x6, some (.int a), some (.int b), some (.int c), some (.int dd), some (.int mo), x12, x13, x14, x15, x16, x17, x18] [.int (if m3 < m4 then m3 else m4)] h Q
  generalize ele : (if m3 < m4 then m3 else m4) = le
  show zwM (d + 1) 196 181 [x0, x1, x2, some (.int w), x4, x5, x6, some (.int a), some (.int b), some (.int c), some (.int dd), some (.int mo), x12, x13, x14, x15, x16, x17, x18] [.int le] h Q
  refine zwM_one (i := .istore 12) (e := zm_196) rfl rfl rfl rfl (fun _ => rfl) ?_
  show zwM (d + 1) 196 183 [x0, x1, x2, some (.int w), x4, x5, x6, some (.int a), some (.int b), some (.int c), some (.int dd), some (.int mo), some (.int le), x13, x14, x15, x16, x17, x18] [] h Q
  refine zwM_one (i := .iload 11) (e := zm_196) rfl rfl rfl rfl (fun _ => rfl) ?_
  show zwM (d + 1) 196 185 [x0, x1, x2, some (.int w), x4, x5, x6, some (.int a), some (.int b), some (.int c), some (.int dd), some (.int mo), some (.int le), x13, x14, x15, x16, x17, x18] [.int mo] h Q
  refine zwM_one (i := .i2l) (e := zm_196) rfl rfl rfl rfl (fun _ => rfl) ?_
  show zwM (d + 1) 196 186 [x0, x1, x2, some (.int w), x4, x5, x6, some (.int a), some (.int b), some (.int c), some (.int dd), some (.int mo), some (.int le), x13, x14, x15, x16, x17, x18] [.long (mo).toInt64] h Q
  refine zwM_one (i := .lstore 13) (e := zm_196) rfl rfl rfl rfl (fun _ => rfl) ?_
  show zwM (d + 1) 196 188 [x0, x1, x2, some (.int w), x4, x5, x6, some (.int a), some (.int b), some (.int c), some (.int dd), some (.int mo), some (.int le), some (.long (mo).toInt64), none, x15, x16, x17, x18] [] h Q
  refine zwM_one (i := .lconst 1) (e := zm_196) rfl rfl rfl rfl (fun _ => rfl) ?_
  show zwM (d + 1) 196 189 [x0, x1, x2, some (.int w), x4, x5, x6, some (.int a), some (.int b), some (.int c), some (.int dd), some (.int mo), some (.int le), some (.long (mo).toInt64), none, x15, x16, x17, x18] [.long (Int64.ofNat 1)] h Q
  refine zwM_one (i := .lstore 15) (e := zm_196) rfl rfl rfl rfl (fun _ => rfl) ?_
  show zwM (d + 1) 196 191 [x0, x1, x2, some (.int w), x4, x5, x6, some (.int a), some (.int b), some (.int c), some (.int dd), some (.int mo), some (.int le), some (.long (mo).toInt64), none, some (.long (Int64.ofNat 1)), none, x17, x18] [] h Q
  refine zwM_one (i := .iload 11) (e := zm_196) rfl rfl rfl rfl (fun _ => rfl) ?_
  show zwM (d + 1) 196 193 [x0, x1, x2, some (.int w), x4, x5, x6, some (.int a), some (.int b), some (.int c), some (.int dd), some (.int mo), some (.int le), some (.long (mo).toInt64), none, some (.long (Int64.ofNat 1)), none, x17, x18] [.int mo] h Q
  refine zwM_one (i := .iload 12) (e := zm_196) rfl rfl rfl rfl (fun _ => rfl) ?_
  show zwM (d + 1) 196 195 [x0, x1, x2, some (.int w), x4, x5, x6, some (.int a), some (.int b), some (.int c), some (.int dd), some (.int mo), some (.int le), some (.long (mo).toInt64), none, some (.long (Int64.ofNat 1)), none, x17, x18] [.int le, .int mo] h Q
  have i1 : m1.toInt = min a.toInt b.toInt := by rw [← em1]; exact less_int a b
  have i2 : m2.toInt = min c.toInt dd.toInt := by rw [← em2]; exact less_int c dd
  have i3 : mo.toInt = max m1.toInt m2.toInt := by rw [← emo]; exact great_int m1 m2
  have i4 : m3.toInt = max a.toInt c.toInt := by rw [← em3]; exact great_int a c
  have i5 : m4.toInt = max b.toInt dd.toInt := by rw [← em4]; exact great_int b dd
  have i6 : le.toInt = min m3.toInt m4.toInt := by rw [← ele]; exact less_int m3 m4
  have fin : ∀ (u v : Int64) (x y : Option Value), v.toInt ≠ 0 → zwM (d + 1) 196 243 [x0, x1, x2, some (.int w), x4, x5, x6, some (.int a), some (.int b), some (.int c), some (.int dd), some (.int mo), some (.int le), some (.long u), none, some (.long v), none, x17, x18] [] h Q := by
    intro u v x y hv
    have bu := rOk_l.mp (rIn_l u)
    have bv := rOk_l.mp (rIn_l v)
    exact K _ ⟨⟨w, rfl, w1, w2, (fun q => by cases q)⟩, ⟨u, rfl, bu.1, bu.2, (fun q => by cases q)⟩, ⟨v, rfl, bv.1, bv.2, fun _ => hv⟩, trivial⟩
  refine zwM_icmp (e := zm_196) rfl rfl (t := 243) rfl (fun _ => ?_) (fun hc => ?_)
  · exact fin _ _ none none (by decide)
  · show zwM (d + 1) 196 198 [x0, x1, x2, some (.int w), x4, x5, x6, some (.int a), some (.int b), some (.int c), some (.int dd), some (.int mo), some (.int le), some (.long (mo).toInt64), none, some (.long (Int64.ofNat 1)), none, x17, x18] [] h Q
    have hne : mo.toInt ≠ le.toInt := fun z => of_decide_eq_false hc (Int32.toInt_inj.mp z)
    refine zwM_one (i := .iload 7) (e := zm_196) rfl rfl rfl rfl (fun _ => rfl) ?_
    show zwM (d + 1) 196 200 [x0, x1, x2, some (.int w), x4, x5, x6, some (.int a), some (.int b), some (.int c), some (.int dd), some (.int mo), some (.int le), some (.long (mo).toInt64), none, some (.long (Int64.ofNat 1)), none, x17, x18] [.int a] h Q
    refine zwM_one (i := .iload 10) (e := zm_196) rfl rfl rfl rfl (fun _ => rfl) ?_
    show zwM (d + 1) 196 202 [x0, x1, x2, some (.int w), x4, x5, x6, some (.int a), some (.int b), some (.int c), some (.int dd), some (.int mo), some (.int le), some (.long (mo).toInt64), none, some (.long (Int64.ofNat 1)), none, x17, x18] [.int dd, .int a] h Q
    refine zwM_one (i := .imul) (e := zm_196) rfl rfl rfl rfl (fun _ => rfl) ?_
    show zwM (d + 1) 196 203 [x0, x1, x2, some (.int w), x4, x5, x6, some (.int a), some (.int b), some (.int c), some (.int dd), some (.int mo), some (.int le), some (.long (mo).toInt64), none, some (.long (Int64.ofNat 1)), none, x17, x18] [.int (a * dd)] h Q
    refine zwM_one (i := .iload 8) (e := zm_196) rfl rfl rfl rfl (fun _ => rfl) ?_
    show zwM (d + 1) 196 205 [x0, x1, x2, some (.int w), x4, x5, x6, some (.int a), some (.int b), some (.int c), some (.int dd), some (.int mo), some (.int le), some (.long (mo).toInt64), none, some (.long (Int64.ofNat 1)), none, x17, x18] [.int b, .int (a * dd)] h Q
    refine zwM_one (i := .iload 9) (e := zm_196) rfl rfl rfl rfl (fun _ => rfl) ?_
    show zwM (d + 1) 196 207 [x0, x1, x2, some (.int w), x4, x5, x6, some (.int a), some (.int b), some (.int c), some (.int dd), some (.int mo), some (.int le), some (.long (mo).toInt64), none, some (.long (Int64.ofNat 1)), none, x17, x18] [.int c, .int b, .int (a * dd)] h Q
    refine zwM_one (i := .imul) (e := zm_196) rfl rfl rfl rfl (fun _ => rfl) ?_
    show zwM (d + 1) 196 208 [x0, x1, x2, some (.int w), x4, x5, x6, some (.int a), some (.int b), some (.int c), some (.int dd), some (.int mo), some (.int le), some (.long (mo).toInt64), none, some (.long (Int64.ofNat 1)), none, x17, x18] [.int (b * c), .int (a * dd)] h Q
    refine zwM_one (i := .isub) (e := zm_196) rfl rfl rfl rfl (fun _ => rfl) ?_
    show zwM (d + 1) 196 209 [x0, x1, x2, some (.int w), x4, x5, x6, some (.int a), some (.int b), some (.int c), some (.int dd), some (.int mo), some (.int le), some (.long (mo).toInt64), none, some (.long (Int64.ofNat 1)), none, x17, x18] [.int ((a * dd) - (b * c))] h Q
    refine zwM_one (i := .i2l) (e := zm_196) rfl rfl rfl rfl (fun _ => rfl) ?_
    show zwM (d + 1) 196 210 [x0, x1, x2, some (.int w), x4, x5, x6, some (.int a), some (.int b), some (.int c), some (.int dd), some (.int mo), some (.int le), some (.long (mo).toInt64), none, some (.long (Int64.ofNat 1)), none, x17, x18] [.long (((a * dd) - (b * c))).toInt64] h Q
    refine zwM_one (i := .lstore 13) (e := zm_196) rfl rfl rfl rfl (fun _ => rfl) ?_
    show zwM (d + 1) 196 212 [x0, x1, x2, some (.int w), x4, x5, x6, some (.int a), some (.int b), some (.int c), some (.int dd), some (.int mo), some (.int le), some (.long (((a * dd) - (b * c))).toInt64), none, some (.long (Int64.ofNat 1)), none, x17, x18] [] h Q
    refine zwM_one (i := .iload 7) (e := zm_196) rfl rfl rfl rfl (fun _ => rfl) ?_
    show zwM (d + 1) 196 214 [x0, x1, x2, some (.int w), x4, x5, x6, some (.int a), some (.int b), some (.int c), some (.int dd), some (.int mo), some (.int le), some (.long (((a * dd) - (b * c))).toInt64), none, some (.long (Int64.ofNat 1)), none, x17, x18] [.int a] h Q
    refine zwM_one (i := .iload 10) (e := zm_196) rfl rfl rfl rfl (fun _ => rfl) ?_
    show zwM (d + 1) 196 216 [x0, x1, x2, some (.int w), x4, x5, x6, some (.int a), some (.int b), some (.int c), some (.int dd), some (.int mo), some (.int le), some (.long (((a * dd) - (b * c))).toInt64), none, some (.long (Int64.ofNat 1)), none, x17, x18] [.int dd, .int a] h Q
    refine zwM_one (i := .iadd) (e := zm_196) rfl rfl rfl rfl (fun _ => rfl) ?_
    show zwM (d + 1) 196 217 [x0, x1, x2, some (.int w), x4, x5, x6, some (.int a), some (.int b), some (.int c), some (.int dd), some (.int mo), some (.int le), some (.long (((a * dd) - (b * c))).toInt64), none, some (.long (Int64.ofNat 1)), none, x17, x18] [.int (a + dd)] h Q
    refine zwM_one (i := .iload 8) (e := zm_196) rfl rfl rfl rfl (fun _ => rfl) ?_
    show zwM (d + 1) 196 219 [x0, x1, x2, some (.int w), x4, x5, x6, some (.int a), some (.int b), some (.int c), some (.int dd), some (.int mo), some (.int le), some (.long (((a * dd) - (b * c))).toInt64), none, some (.long (Int64.ofNat 1)), none, x17, x18] [.int b, .int (a + dd)] h Q
    refine zwM_one (i := .isub) (e := zm_196) rfl rfl rfl rfl (fun _ => rfl) ?_
    show zwM (d + 1) 196 220 [x0, x1, x2, some (.int w), x4, x5, x6, some (.int a), some (.int b), some (.int c), some (.int dd), some (.int mo), some (.int le), some (.long (((a * dd) - (b * c))).toInt64), none, some (.long (Int64.ofNat 1)), none, x17, x18] [.int ((a + dd) - b)] h Q
    refine zwM_one (i := .iload 9) (e := zm_196) rfl rfl rfl rfl (fun _ => rfl) ?_
    show zwM (d + 1) 196 222 [x0, x1, x2, some (.int w), x4, x5, x6, some (.int a), some (.int b), some (.int c), some (.int dd), some (.int mo), some (.int le), some (.long (((a * dd) - (b * c))).toInt64), none, some (.long (Int64.ofNat 1)), none, x17, x18] [.int c, .int ((a + dd) - b)] h Q
    refine zwM_one (i := .isub) (e := zm_196) rfl rfl rfl rfl (fun _ => rfl) ?_
    show zwM (d + 1) 196 223 [x0, x1, x2, some (.int w), x4, x5, x6, some (.int a), some (.int b), some (.int c), some (.int dd), some (.int mo), some (.int le), some (.long (((a * dd) - (b * c))).toInt64), none, some (.long (Int64.ofNat 1)), none, x17, x18] [.int (((a + dd) - b) - c)] h Q
    have s1 : (a + dd).toInt = a.toInt + dd.toInt := Jvm.Kit.i32_add (by omega) (by omega)
    have s2 : (a + dd - b).toInt = a.toInt + dd.toInt - b.toInt := by rw [Jvm.Kit.i32_sub (by omega) (by omega), s1]
    have s3 : (a + dd - b - c).toInt = a.toInt + dd.toInt - b.toInt - c.toInt := by rw [Jvm.Kit.i32_sub (by omega) (by omega), s2]
    have s4 : (((((a + dd) - b) - c)).toInt64).toInt ≠ 0 := by rw [Jvm.Kit.i64_of_i32, show ((((a + dd) - b) - c)).toInt = a.toInt + dd.toInt - b.toInt - c.toInt from s3]; omega
    have s5 : (((((a + dd) - b) - c)).toInt64).toInt ≠ -2 ^ 63 := by rw [Jvm.Kit.i64_of_i32, show ((((a + dd) - b) - c)).toInt = a.toInt + dd.toInt - b.toInt - c.toInt from s3]; omega
    refine zwM_one (i := .i2l) (e := zm_196) rfl rfl rfl rfl (fun _ => rfl) ?_
    show zwM (d + 1) 196 224 [x0, x1, x2, some (.int w), x4, x5, x6, some (.int a), some (.int b), some (.int c), some (.int dd), some (.int mo), some (.int le), some (.long (((a * dd) - (b * c))).toInt64), none, some (.long (Int64.ofNat 1)), none, x17, x18] [.long ((((a + dd) - b) - c)).toInt64] h Q
    refine zwM_one (i := .lstore 15) (e := zm_196) rfl rfl rfl rfl (fun _ => rfl) ?_
    show zwM (d + 1) 196 226 [x0, x1, x2, some (.int w), x4, x5, x6, some (.int a), some (.int b), some (.int c), some (.int dd), some (.int mo), some (.int le), some (.long (((a * dd) - (b * c))).toInt64), none, some (.long ((((a + dd) - b) - c)).toInt64), none, x17, x18] [] h Q
    refine zwM_one (i := .lload 15) (e := zm_196) rfl rfl rfl rfl (fun _ => rfl) ?_
    show zwM (d + 1) 196 228 [x0, x1, x2, some (.int w), x4, x5, x6, some (.int a), some (.int b), some (.int c), some (.int dd), some (.int mo), some (.int le), some (.long (((a * dd) - (b * c))).toInt64), none, some (.long ((((a + dd) - b) - c)).toInt64), none, x17, x18] [.long ((((a + dd) - b) - c)).toInt64] h Q
    refine zwM_one (i := .lconst 0) (e := zm_196) rfl rfl rfl rfl (fun _ => rfl) ?_
    show zwM (d + 1) 196 229 [x0, x1, x2, some (.int w), x4, x5, x6, some (.int a), some (.int b), some (.int c), some (.int dd), some (.int mo), some (.int le), some (.long (((a * dd) - (b * c))).toInt64), none, some (.long ((((a + dd) - b) - c)).toInt64), none, x17, x18] [.long (Int64.ofNat 0), .long ((((a + dd) - b) - c)).toInt64] h Q
    refine zwM_one (i := .lcmp) (e := zm_196) rfl rfl rfl rfl (fun _ => rfl) ?_
    show zwM (d + 1) 196 230 [x0, x1, x2, some (.int w), x4, x5, x6, some (.int a), some (.int b), some (.int c), some (.int dd), some (.int mo), some (.int le), some (.long (((a * dd) - (b * c))).toInt64), none, some (.long ((((a + dd) - b) - c)).toInt64), none, x17, x18] [.int (lg_cmp ((((a + dd) - b) - c)).toInt64 (Int64.ofNat 0))] h Q
    refine zwM_if (e := zm_196) rfl rfl (t := 243) rfl (fun _ => ?_) (fun _ => ?_)
    · exact fin _ _ none none s4
    · show zwM (d + 1) 196 233 [x0, x1, x2, some (.int w), x4, x5, x6, some (.int a), some (.int b), some (.int c), some (.int dd), some (.int mo), some (.int le), some (.long (((a * dd) - (b * c))).toInt64), none, some (.long ((((a + dd) - b) - c)).toInt64), none, x17, x18] [] h Q
      refine zwM_one (i := .lload 13) (e := zm_196) rfl rfl rfl rfl (fun _ => rfl) ?_
      show zwM (d + 1) 196 235 [x0, x1, x2, some (.int w), x4, x5, x6, some (.int a), some (.int b), some (.int c), some (.int dd), some (.int mo), some (.int le), some (.long (((a * dd) - (b * c))).toInt64), none, some (.long ((((a + dd) - b) - c)).toInt64), none, x17, x18] [.long (((a * dd) - (b * c))).toInt64] h Q
      refine zwM_one (i := .lneg) (e := zm_196) rfl rfl rfl rfl (fun _ => rfl) ?_
      show zwM (d + 1) 196 236 [x0, x1, x2, some (.int w), x4, x5, x6, some (.int a), some (.int b), some (.int c), some (.int dd), some (.int mo), some (.int le), some (.long (((a * dd) - (b * c))).toInt64), none, some (.long ((((a + dd) - b) - c)).toInt64), none, x17, x18] [.long (-(((a * dd) - (b * c))).toInt64)] h Q
      refine zwM_one (i := .lstore 13) (e := zm_196) rfl rfl rfl rfl (fun _ => rfl) ?_
      show zwM (d + 1) 196 238 [x0, x1, x2, some (.int w), x4, x5, x6, some (.int a), some (.int b), some (.int c), some (.int dd), some (.int mo), some (.int le), some (.long (-(((a * dd) - (b * c))).toInt64)), none, some (.long ((((a + dd) - b) - c)).toInt64), none, x17, x18] [] h Q
      refine zwM_one (i := .lload 15) (e := zm_196) rfl rfl rfl rfl (fun _ => rfl) ?_
      show zwM (d + 1) 196 240 [x0, x1, x2, some (.int w), x4, x5, x6, some (.int a), some (.int b), some (.int c), some (.int dd), some (.int mo), some (.int le), some (.long (-(((a * dd) - (b * c))).toInt64)), none, some (.long ((((a + dd) - b) - c)).toInt64), none, x17, x18] [.long ((((a + dd) - b) - c)).toInt64] h Q
      refine zwM_one (i := .lneg) (e := zm_196) rfl rfl rfl rfl (fun _ => rfl) ?_
      show zwM (d + 1) 196 241 [x0, x1, x2, some (.int w), x4, x5, x6, some (.int a), some (.int b), some (.int c), some (.int dd), some (.int mo), some (.int le), some (.long (-(((a * dd) - (b * c))).toInt64)), none, some (.long ((((a + dd) - b) - c)).toInt64), none, x17, x18] [.long (-((((a + dd) - b) - c)).toInt64)] h Q
      refine zwM_one (i := .lstore 15) (e := zm_196) rfl rfl rfl rfl (fun _ => rfl) ?_
      show zwM (d + 1) 196 243 [x0, x1, x2, some (.int w), x4, x5, x6, some (.int a), some (.int b), some (.int c), some (.int dd), some (.int mo), some (.int le), some (.long (-(((a * dd) - (b * c))).toInt64)), none, some (.long (-((((a + dd) - b) - c)).toInt64)), none, x17, x18] [] h Q
      refine fin _ _ none none ?_
      rw [Jvm.Kit.i64_neg s5]
      omega

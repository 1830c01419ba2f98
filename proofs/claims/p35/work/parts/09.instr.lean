theorem zK_ok {o k pos : Nat} {v : Int32} (ho : o < 15) (hf : zFind k (zKT.getD o []) = some (v, pos)) : Cond.constant (zCn.getD o "") k v ∈ zTb :=
  zTb_at (of_decide_eq_true (zRange (T := zKT) (g := fun (o : Nat) (q : Nat × Int32 × Nat) => decide (lw_tbl[q.2.2]? = some (Cond.constant (zCn.getD o "") q.1 q.2.1))) zKTall ho (zFind_mem hf))) rfl
theorem zJ_ok {o k pos : Nat} {v : Int64} (ho : o < 15) (hf : zFind k (zJT.getD o []) = some (v, pos)) : Cond.constantLong (zCn.getD o "") k v ∈ zTb :=
  zTb_at (of_decide_eq_true (zRange (T := zJT) (g := fun (o : Nat) (q : Nat × Int64 × Nat) => decide (lw_tbl[q.2.2]? = some (Cond.constantLong (zCn.getD o "") q.1 q.2.1))) zJTall ho (zFind_mem hf))) rfl
theorem zG_ok {o k j pos : Nat} (ho : o < 15) (hf : zFind k (zGT.getD o []) = some (j, pos)) : j < 3 ∧ Cond.fieldLink (zCn.getD o "") k "MapItch$Asks" (zGn.getD j "") "[I" ∈ zTb := by
  have hw := zRange (T := zGT) (g := fun (o : Nat) (q : Nat × Nat × Nat) => Nat.blt q.2.1 3 && decide (lw_tbl[q.2.2]? = some (Cond.fieldLink (zCn.getD o "") q.1 "MapItch$Asks" (zGn.getD q.2.1 "") "[I"))) zGTall ho (zFind_mem hf)
  simp only [Bool.and_eq_true, decide_eq_true_eq] at hw
  exact ⟨zblt hw.1, zTb_at hw.2 rfl⟩
theorem zA_ok {o k pos : Nat} (ho : o < 15) (hf : zFind k (zAT.getD o []) = some pos) : Cond.methodLink (zCn.getD o "") k arraycopyName ∈ zTb :=
  zTb_at (of_decide_eq_true (zRange (T := zAT) (g := fun (o : Nat) (q : Nat × Nat) => decide (lw_tbl[q.2]? = some (Cond.methodLink (zCn.getD o "") q.1 arraycopyName))) zATall ho (zFind_mem hf))) rfl
section ZI
variable {p : Program} {l : Launch} {e : Env} {R : Room} {s : State} {m : MethodId} {args : Array Value} {below : List Frame} {meth : Method} {c : Code} {cells slots : Nat} {Q : State → Prop}
variable {cc : ByteArray} {nL o : Nat} {D : va_G} {tC : Nat → ClassId} {adr : Nat → Nat} {A : Nat → Prop} {E : zSc}
variable {pc : Nat} {L : zLo} {S : List Value} {h : zH} {f' : zF}
theorem zbeq {a b : Nat} (h : Nat.beq a b = true) : a = b := Nat.eq_of_beq_eq_true h
theorem zcvc {v : Value} {n : Nat} (h : Nat.beq v.category n = true) : (zcv adr v).category = n := (zcv_cat adr v).trans (zbeq h)
set_option maxHeartbeats 4000000 in
theorem zI_ok (C : zCx p R s m args c cc nL o D tC adr A E) {i : Instr} (hi : zI E o i L S h = some f') (hdg : decode cc pc = .ok (i, zLen i))
    (k : zWp p l e R s m args below meth c cells slots Q nL D tC adr A (pc + zLen i) f') : zWp p l e R s m args below meth c cells slots Q nL D tC adr A pc (L, S, h) := by
  obtain ⟨hx, hb, hml, hown, ho, hts, hK, hinj, hAin, hst, hE, hR1, hR2⟩ := id C
  unfold zI at hi
  split at hi
  · cases hi; exact fun H locs ls hP hS hl => lv_iconst hx hb hdg rfl (k H locs ls hP hS hl)
  · cases hi; exact fun H locs ls hP hS hl => lv_bipush hx hb hdg rfl (k H locs ls hP hS hl)
  · cases hi; exact fun H locs ls hP hS hl => lv_sipush hx hb hdg rfl (k H locs ls hP hS hl)
  · cases hi; exact fun H locs ls hP hS hl => lv_lconst hx hb hdg rfl (k H locs ls hP hS hl)
  · split at hi
    · rename_i v pos hf
      cases hi
      exact fun H locs ls hP hS hl => lv_ldc hx hb hown (hts _ (zK_ok ho hf)) hdg (k H locs ls hP hS hl)
    · cases hi
  · split at hi
    · rename_i v pos hf
      cases hi
      exact fun H locs ls hP hS hl => lv_ldcw hx hb hown (hts _ (zK_ok ho hf)) hdg (k H locs ls hP hS hl)
    · cases hi
  · split at hi
    · rename_i v pos hf
      cases hi
      exact fun H locs ls hP hS hl => lv_ldc2 hx hb hown (hts _ (zJ_ok ho hf)) hdg (k H locs ls hP hS hl)
    · cases hi
  · exact zLdi_ok (n := 2) hi (fun _ _ _ _ _ h1 k => lv_iload hx hb hdg h1 k) k
  · exact zLdi_ok (n := 1) hi (fun _ _ _ _ _ h1 k => lv_iload_n hx hb hdg rfl h1 k) k
  · exact zLdl_ok (n := 2) hi (fun _ _ _ _ _ h1 k => lv_lload hx hb hdg h1 k) k
  · exact zLdl_ok (n := 1) hi (fun _ _ _ _ _ h1 k => lv_lload_n hx hb hdg rfl h1 k) k
  · exact zLda_ok (n := 2) hi (fun _ _ _ _ _ h1 k => lv_aload hx hb hdg h1 k) k
  · exact zLda_ok (n := 1) hi (fun _ _ _ _ _ h1 k => lv_aload_n hx hb hdg rfl h1 k) k
  · exact zSti_ok (n := 2) hi (fun _ _ _ _ _ _ h1 h2 k => lv_istore hx hb hdg h1 h2 rfl k) k
  · exact zSti_ok (n := 1) hi (fun _ _ _ _ _ _ h1 h2 k => lv_istore_n hx hb hdg rfl h1 h2 rfl k) k
  · exact zStl_ok (n := 2) hi (fun _ _ _ _ _ _ h1 h2 k => lv_lstore hx hb hdg h1 h2 rfl k) k
  · exact zStl_ok (n := 1) hi (fun _ _ _ _ _ _ h1 h2 k => lv_lstore_n hx hb hdg rfl h1 h2 rfl k) k
  · exact zSta_ok (n := 2) hi (fun _ _ _ _ _ _ h1 h2 k => lv_astore hx hb hdg h1 h2 rfl k) k
  · exact zSta_ok (n := 1) hi (fun _ _ _ _ _ _ h1 h2 k => lv_astore_n hx hb hdg rfl h1 h2 rfl k) k
  · exact zInc_ok C hi hdg k
  · exact zBin_ok hi (fun _ _ _ _ _ _ k => lv_iadd hx hb hdg k) k
  · exact zBin_ok hi (fun _ _ _ _ _ _ k => lv_isub hx hb hdg k) k
  · exact zBin_ok hi (fun _ _ _ _ _ _ k => lv_imul hx hb hdg k) k
  · exact zBin_ok hi (fun _ _ _ _ _ _ k => lv_iand hx hb hdg k) k
  · exact zBin_ok hi (fun _ _ _ _ _ _ k => lv_ior hx hb hdg k) k
  · exact zBin_ok hi (fun _ _ _ _ _ _ k => lv_ixor hx hb hdg k) k
  · exact zBin_ok hi (fun _ _ _ _ _ _ k => lv_ishl hx hb hdg k) k
  · exact zBin_ok hi (fun _ _ _ _ _ _ k => lv_ishr hx hb hdg k) k
  · exact zBin_ok hi (fun _ _ _ _ _ _ k => lv_iushr hx hb hdg rfl k) k
  · exact zBiD_ok hi (fun _ _ _ _ _ _ h1 k => lv_idiv hx hb hdg h1 k) k
  · exact zBiD_ok hi (fun _ _ _ _ _ _ h1 k => lv_irem hx hb hdg h1 k) k
  · exact zUn_ok hi (fun _ _ _ _ _ k => lv_ineg hx hb hdg k) k
  · exact zUn_ok hi (fun _ _ _ _ _ k => lv_i2b hx hb hdg rfl k) k
  · exact zUn_ok hi (fun _ _ _ _ _ k => lv_i2s hx hb hdg rfl k) k
  · split at hi
    · cases hi; exact fun H locs ls hP hS hl => lv_i2l hx hb hdg rfl (k H locs ls hP hS hl)
    · cases hi
  · split at hi
    · cases hi; exact fun H locs ls hP hS hl => lv_l2i hx hb hdg rfl (k H locs ls hP hS hl)
    · cases hi
  · split at hi
    · cases hi; exact fun H locs ls hP hS hl => lv_lneg hx hb hdg (k H locs ls hP hS hl)
    · cases hi
  · split at hi
    · cases hi; exact fun H locs ls hP hS hl => W.lcmp hx hb hdg (k H locs ls hP hS hl)
    · cases hi
  · exact zLin_ok hi (fun _ _ _ _ _ _ k => lv_ladd hx hb hdg k) k
  · exact zLin_ok hi (fun _ _ _ _ _ _ k => lv_lsub hx hb hdg k) k
  · exact zLin_ok hi (fun _ _ _ _ _ _ k => lv_lmul hx hb hdg k) k
  · exact zLiD_ok hi (fun _ _ _ _ _ _ h1 k => lv_ldiv hx hb hdg h1 k) k
  · exact zLiD_ok hi (fun _ _ _ _ _ _ h1 k => lv_lrem hx hb hdg h1 k) k
  · unfold zDup at hi
    split at hi
    · rename_i v r
      cases h1 : Nat.beq v.category 1 with
      | false => rw [h1] at hi; cases hi
      | true => rw [h1] at hi; cases hi; exact fun H locs ls hP hS hl => lv_dup hx hb hdg (zcvc h1) (k H locs ls hP hS hl)
    · cases hi
  · unfold zDup2 at hi
    split at hi
    · rename_i v w r
      cases h1 : Nat.beq v.category 1 with
      | false => rw [h1] at hi; cases hi
      | true =>
        rw [h1] at hi
        cases h2 : Nat.beq w.category 1 with
        | false => rw [h2] at hi; cases hi
        | true => rw [h2] at hi; cases hi; exact fun H locs ls hP hS hl => lv_dup2_11 hx hb hdg (zcvc h1) (zcvc h2) (k H locs ls hP hS hl)
    · cases hi
  · unfold zPop at hi
    split at hi
    · rename_i v r
      cases h1 : Nat.beq v.category 1 with
      | false => rw [h1] at hi; cases hi
      | true => rw [h1] at hi; cases hi; exact fun H locs ls hP hS hl => lv_pop hx hb hdg (zcvc h1) (k H locs ls hP hS hl)
    · cases hi
  · unfold zPop2 at hi
    split at hi
    · rename_i v r
      cases h1 : Nat.beq v.category 2 with
      | false => rw [h1] at hi; cases hi
      | true => rw [h1] at hi; cases hi; exact fun H locs ls hP hS hl => lv_pop2_2 hx hb hdg (zcvc h1) (k H locs ls hP hS hl)
    · cases hi
  · exact zGet_ok C hi hdg k
  · exact zPut_ok C hi hdg k
  · split at hi
    · rename_i j pos hf
      cases hi
      obtain ⟨⟨z0, -⟩, ⟨z1, -⟩, z2, -⟩ := hst
      intro H locs ls hP hS hl
      have K := k H locs ls hP hS hl
      obtain ⟨h3, hw⟩ := zG_ok ho hf
      have hlk := hts _ hw
      match j, h3, hlk, K with
      | 0, _, hlk, K => exact va_gets hx hb z0 hS hown hlk (fun _ h9 => h9) hdg K
      | 1, _, hlk, K => exact va_gets hx hb z1 hS hown hlk (fun _ h9 => h9) hdg K
      | 2, _, hlk, K => exact va_gets hx hb z2 hS hown hlk (fun _ h9 => h9) hdg K
      | j + 3, h3, _, _ => exact absurd h3 (by omega)
    · cases hi
  · exact zIal_ok C hi hdg k
  · exact zAle_ok C hi hdg k
  · exact zIas_ok C hi hdg k
  · exact zLal_ok C hi hdg k
  · exact zLas_ok C hi hdg k
  · exact zAal_ok C hi hdg k
  · cases hi
theorem zTgt_ok {pc t : Nat} {off : Int} (h : zTgt pc off = some t) : (pc : Int) + off = (t : Int) := by
  unfold zTgt at h
  split at h
  · cases h; omega
  · cases h
theorem zGo_ok {t : Option Nat} {q : Nat × zF} (h1 : zGo t L S h = some q) : ∃ t', t = some t' ∧ q = (t', L, S, h) := by
  unfold zGo at h1
  split at h1
  · cases h1; exact ⟨_, rfl, rfl⟩
  · cases h1
set_option maxHeartbeats 4000000 in
theorem zS_ok (C : zCx p R s m args c cc nL o D tC adr A E) {i : Instr} {q : Nat × zF} (hi : zS E o pc i L S h = some q) {n : Nat} (hdg : decode cc pc = .ok (i, n)) (hn : zSw i = true ∨ n = zLen i)
    (k : zWp p l e R s m args below meth c cells slots Q nL D tC adr A q.1 q.2) : zWp p l e R s m args below meth c cells slots Q nL D tC adr A pc (L, S, h) := by
  obtain ⟨hx, hb, hml, hown, ho, hts, hK, hinj, hAin, hst, hE, hR1, hR2⟩ := id C
  unfold zS at hi
  split at hi
  · rename_i cd off
    have hn : n = 3 := hn.elim (fun z => by cases z) id
    subst hn
    split at hi
    · rename_i x r
      split at hi
      · rename_i t h1
        cases hi
        have ht := zTgt_ok h1
        intro H locs ls hP hS hl
        have K := k H locs ls hP hS hl
        cases hc : zc1 cd x with
        | true =>
          rw [hc] at K
          cases cd <;> simp only [zc1, decide_eq_true_eq, Bool.not_eq_true', decide_eq_false_iff_not] at hc
          · exact lv_if_eq hx hb hdg ht (fun _ => K) (fun z => absurd hc z)
          · exact lv_if_ne hx hb hdg ht (fun _ => K) (fun z => absurd z hc)
          · exact lv_if_lt hx hb hdg ht (fun _ => K) (fun z => absurd hc z)
          · exact lv_if_ge hx hb hdg ht (fun _ => K) (fun z => absurd hc z)
          · exact lv_if_gt hx hb hdg ht (fun _ => K) (fun z => absurd hc z)
          · exact lv_if_le hx hb hdg ht (fun _ => K) (fun z => absurd hc z)
        | false =>
          rw [hc] at K
          cases cd <;> simp only [zc1, decide_eq_false_iff_not, Bool.not_eq_false', decide_eq_true_eq] at hc
          · exact lv_if_eq hx hb hdg ht (fun z => absurd z hc) (fun _ => K)
          · exact lv_if_ne hx hb hdg ht (fun z => absurd hc z) (fun _ => K)
          · exact lv_if_lt hx hb hdg ht (fun z => absurd z hc) (fun _ => K)
          · exact lv_if_ge hx hb hdg ht (fun z => absurd z hc) (fun _ => K)
          · exact lv_if_gt hx hb hdg ht (fun z => absurd z hc) (fun _ => K)
          · exact lv_if_le hx hb hdg ht (fun z => absurd z hc) (fun _ => K)
      · cases hi
    · cases hi
  · rename_i cd off
    have hn : n = 3 := hn.elim (fun z => by cases z) id
    subst hn
    split at hi
    · rename_i y x r
      split at hi
      · rename_i t h1
        cases hi
        have ht := zTgt_ok h1
        intro H locs ls hP hS hl
        have K := k H locs ls hP hS hl
        cases hc : zc2 cd x y with
        | true =>
          rw [hc] at K
          cases cd <;> simp only [zc2, decide_eq_true_eq, Bool.not_eq_true', decide_eq_false_iff_not] at hc
          · exact lv_icmp_eq hx hb hdg ht (fun _ => K) (fun z => absurd hc z)
          · exact lv_icmp_ne hx hb hdg ht (fun _ => K) (fun z => absurd z hc)
          · exact lv_icmp_lt hx hb hdg ht (fun _ => K) (fun z => absurd hc z)
          · exact lv_icmp_ge hx hb hdg ht (fun _ => K) (fun z => absurd hc z)
          · exact lv_icmp_gt hx hb hdg ht (fun _ => K) (fun z => absurd hc z)
          · exact lv_icmp_le hx hb hdg ht (fun _ => K) (fun z => absurd hc z)
        | false =>
          rw [hc] at K
          cases cd <;> simp only [zc2, decide_eq_false_iff_not, Bool.not_eq_false', decide_eq_true_eq] at hc
          · exact lv_icmp_eq hx hb hdg ht (fun z => absurd z hc) (fun _ => K)
          · exact lv_icmp_ne hx hb hdg ht (fun z => absurd hc z) (fun _ => K)
          · exact lv_icmp_lt hx hb hdg ht (fun z => absurd z hc) (fun _ => K)
          · exact lv_icmp_ge hx hb hdg ht (fun z => absurd z hc) (fun _ => K)
          · exact lv_icmp_gt hx hb hdg ht (fun z => absurd z hc) (fun _ => K)
          · exact lv_icmp_le hx hb hdg ht (fun z => absurd z hc) (fun _ => K)
      · cases hi
    · cases hi
  · rename_i off
    have hn : n = 3 := hn.elim (fun z => by cases z) id
    subst hn
    obtain ⟨t, h1, rfl⟩ := zGo_ok hi
    exact fun H locs ls hP hS hl => lv_goto hx hb hdg (zTgt_ok h1) (k H locs ls hP hS hl)
  · rename_i d lo hi' offs
    split at hi
    · rename_i x r
      split at hi
      · rename_i hc
        obtain ⟨t, h1, rfl⟩ := zGo_ok hi
        exact fun H locs ls hP hS hl => lv_tableOut hx hb hdg hc (zTgt_ok h1) (k H locs ls hP hS hl)
      · rename_i hc
        split at hi
        · rename_i off ho'
          obtain ⟨t, h1, rfl⟩ := zGo_ok hi
          exact fun H locs ls hP hS hl => lv_tableIn hx hb hdg (fun z => hc (Or.inl z)) (fun z => hc (Or.inr z)) ho' (zTgt_ok h1) (k H locs ls hP hS hl)
        · cases hi
    · cases hi
  · rename_i d ps
    split at hi
    · rename_i x r
      split at hi
      · rename_i hc
        obtain ⟨t, h1, rfl⟩ := zGo_ok hi
        exact fun H locs ls hP hS hl => lv_lookup hx hb hdg hc rfl (zTgt_ok h1) (k H locs ls hP hS hl)
      · cases hi
    · cases hi
  · rename_i n1 n2 n3 n4 n5
    split at hi
    · rename_i f hf
      cases hi
      have hz : zSw i = false := by
        cases i <;> first | rfl | exact absurd rfl (n4 _ _ _ _) | exact absurd rfl (n5 _ _)
      have hn : n = zLen i := hn.elim (fun z => by rw [hz] at z; cases z) id
      subst hn
      exact zI_ok C hf hdg k
    · cases hi
end ZI

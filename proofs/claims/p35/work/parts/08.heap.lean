section ZG
variable {p : Program} {l : Launch} {e : Env} {R : Room} {s : State} {m : MethodId} {args : Array Value} {below : List Frame} {meth : Method} {c : Code} {cells slots : Nat} {Q : State → Prop}
variable {cc : ByteArray} {nL o : Nat} {D : va_G} {tC : Nat → ClassId} {adr : Nat → Nat} {A : Nat → Prop} {E : zSc}
variable {pc : Nat} {L : zLo} {S : List Value} {h : zH} {f' : zF}
theorem zGet_ok (C : zCx p R s m args c cc nL o D tC adr A E) {k : Nat} (hi : zGet o k L S h = some f') (hdg : decode cc pc = .ok (.getfield k, 3))
    (kk : zWp p l e R s m args below meth c cells slots Q nL D tC adr A (pc + 3) f') : zWp p l e R s m args below meth c cells slots Q nL D tC adr A pc (L, S, h) := by
  obtain ⟨hx, hb, hml, hown, ho, hts, hK, -⟩ := C
  unfold zGet at hi
  split at hi
  · rename_i q r
    split at hi
    · rename_i c1 s1 hf
      obtain ⟨rr, hr, hsl, hw⟩ := zFld_ok ho hf
      split at hi
      · rename_i c2 fs hl
        cases hbq : Nat.beq c2 c1 with
        | false => rw [hbq] at hi; cases hi
        | true =>
          rw [hbq] at hi
          have ec := Nat.eq_of_beq_eq_true hbq
          subst ec
          dsimp only [cond] at hi
          split at hi
          · rename_i hv
            cases hi
            intro H locs ls hP hS hl'
            refine va_get (D := D) (ci := c2) (C := rr.1) (T := rr.2.1) (N := rr.2.2) (v := .int (h.1 q s1)) hx hb hts (zCls c2 rr hr).1 hown hK hP q (zW_at hl) hr s1 hsl (hts _ hw) (fun _ h9 => h9) ?_ hdg (kk H locs ls hP hS hl')
            rw [List.getElem?_mapIdx, hv]
            rfl
          · rename_i q' hv
            cases hi
            intro H locs ls hP hS hl'
            refine va_get (D := D) (ci := c2) (C := rr.1) (T := rr.2.1) (N := rr.2.2) (v := .ref (adr q')) hx hb hts (zCls c2 rr hr).1 hown hK hP q (zW_at hl) hr s1 hsl (hts _ hw) (fun _ h9 => h9) ?_ hdg (kk H locs ls hP hS hl')
            rw [List.getElem?_mapIdx, hv]
            rfl
          · cases hi
      · cases hi
    · cases hi
  · cases hi
theorem zcE_put {q j c1 : Nat} {x : Int32} {fs : List (Option Nat)} (hv : fs[j]? = some none) : zcE adr tC (zSet h q j x) q (.inl (c1, fs)) = .inr (c1, (fs.mapIdx fun j f => match f with
    | none => Value.int (h.1 q j)
    | some q => Value.ref (adr q)).set j (.int x)) := by
  unfold zcE
  refine congrArg (fun z => (.inr (c1, z) : va_E)) ?_
  apply List.ext_getElem?
  intro i
  rw [List.getElem?_set, List.getElem?_mapIdx, List.getElem?_mapIdx, List.length_mapIdx]
  by_cases hij : j = i
  · subst hij
    rw [if_pos rfl, if_pos (List.getElem?_eq_some_iff.mp hv).1, hv]
    show some (Value.int ((zSet h q j x).1 q j)) = _
    simp [zSet, va_up, upd]
  · rw [if_neg hij]
    cases fs[i]? with
    | none => rfl
    | some z =>
      cases z with
      | none =>
        show some (Value.int ((zSet h q j x).1 q i)) = some (Value.int (h.1 q i))
        have hij' : ¬ i = j := fun z => hij z.symm
        simp [zSet, va_up, upd, hij']
      | some w => rfl
theorem zPut_ok (C : zCx p R s m args c cc nL o D tC adr A E) {k : Nat} (hi : zPut o k L S h = some f') (hdg : decode cc pc = .ok (.putfield k, 3))
    (kk : zWp p l e R s m args below meth c cells slots Q nL D tC adr A (pc + 3) f') : zWp p l e R s m args below meth c cells slots Q nL D tC adr A pc (L, S, h) := by
  obtain ⟨hx, hb, hml, hown, ho, hts, hK, hinj, hAin, -⟩ := C
  unfold zPut at hi
  split at hi
  · rename_i x q r
    split at hi
    · rename_i c1 s1 hf
      obtain ⟨rr, hr, hsl, hw⟩ := zFld_ok ho hf
      split at hi
      · rename_i c2 fs hl
        cases hbq : Nat.beq c2 c1 with
        | false => rw [hbq] at hi; cases hi
        | true =>
          rw [hbq] at hi
          have ec := Nat.eq_of_beq_eq_true hbq
          subst ec
          dsimp only [cond] at hi
          split at hi
          · rename_i hv
            obtain ⟨r2, hr2, -, hfin, hty⟩ := zObj_ok hl hv
            cases hr.symm.trans hr2
            have key : ∀ ty : FieldType, parseFieldDescriptor (rr.2.1 s1).2.2.1 = some ty → narrow ty (.int x) = .int x → fits ty (.int x) = true → zWp p l e R s m args below meth c cells slots Q nL D tC adr A (pc + 3) (L, r, zSet h q s1 x) → zWp p l e R s m args below meth c cells slots Q nL D tC adr A pc (L, .int x :: .ref q :: r, h) := by
              intro ty h1 h2 h3 kk H locs ls hP hS hl'
              obtain ⟨h4, ⟨ty0, h5⟩, h6⟩ := zCls c2 rr hr
              refine va_put (D := D) (ci := c2) (C := rr.1) (T := rr.2.1) (N := rr.2.2) (v := .int x) (ty := ty) hx hb hts h4 ty0 h5 h6 hown hK hP (zW_D hinj hAin) hS q (zW_at hl) hr s1 hsl (hts _ hw) (fun _ h9 => h9) hfin h1 h2 h3 ?_ hdg (fun H1 locs1 hP1 hD1 hS1 => kk H1 locs1 ls ?_ hS1 hl')
              · rw [List.length_mapIdx]
                exact (List.getElem?_eq_some_iff.mp hv).1
              · have e1 := zW_set (adr := adr) (tC := tC) (h := h) (h' := zSet h q s1 x) hl (zcE_put (adr := adr) (tC := tC) hv) (fun j z hj => zcE_set j z hj)
                rw [← e1]
                exact hP1
            cases hB : zIsB c2 s1 with
            | true =>
              rw [hB] at hi hty
              dsimp only [cond] at hi hty
              split at hi
              · rename_i h01
                cases hi
                rcases h01 with rfl | rfl
                · exact key .boolean hty rfl rfl kk
                · exact key .boolean hty rfl rfl kk
              · cases hi
            | false =>
              rw [hB] at hi hty
              dsimp only [cond] at hi hty
              cases hi
              exact key .int hty rfl rfl kk
          · cases hi
      · cases hi
    · cases hi
  · cases hi
theorem zRow_ok {q n : Nat} {f : Nat → Int32} (hi : zRow E q h = some (n, f)) : (lay[q]? = some (.inr (.inl n)) ∧ f = h.1 q) ∨ (q = 900 ∧ n = 6 ∧ f = zs0) ∨ (q = 901 ∧ n = 6 ∧ f = zs1) ∨ (q = 902 ∧ n = 6 ∧ f = zs2) ∨ (q = 800 ∧ E = some (n, f)) := by
  unfold zRow at hi
  split at hi
  · rename_i n' hl
    cases hi
    exact Or.inl ⟨hl, rfl⟩
  · cases hi
  · cases h1 : Nat.beq q 900 with
    | true =>
      rw [h1] at hi
      cases hi
      exact Or.inr (Or.inl ⟨Nat.eq_of_beq_eq_true h1, rfl, rfl⟩)
    | false =>
      rw [h1] at hi
      cases h2 : Nat.beq q 901 with
      | true =>
        rw [h2] at hi
        cases hi
        exact Or.inr (Or.inr (Or.inl ⟨Nat.eq_of_beq_eq_true h2, rfl, rfl⟩))
      | false =>
        rw [h2] at hi
        cases h3 : Nat.beq q 902 with
        | true =>
          rw [h3] at hi
          cases hi
          exact Or.inr (Or.inr (Or.inr (Or.inl ⟨Nat.eq_of_beq_eq_true h3, rfl, rfl⟩)))
        | false =>
          rw [h3] at hi
          cases h4 : Nat.beq q 800 with
          | true =>
            rw [h4] at hi
            exact Or.inr (Or.inr (Or.inr (Or.inr ⟨Nat.eq_of_beq_eq_true h4, hi⟩)))
          | false => rw [h4] at hi; cases hi
theorem zIal_ok (C : zCx p R s m args c cc nL o D tC adr A E) (hi : zIal E L S h = some f') (hdg : decode cc pc = .ok (.iaload, 1))
    (kk : zWp p l e R s m args below meth c cells slots Q nL D tC adr A (pc + 1) f') : zWp p l e R s m args below meth c cells slots Q nL D tC adr A pc (L, S, h) := by
  obtain ⟨hx, hb, hml, hown, ho, hts, hK, hinj, hAin, ⟨⟨-, z0⟩, ⟨-, z1⟩, -, z2⟩, hE, -⟩ := C
  unfold zIal at hi
  split at hi
  · rename_i i q r
    split at hi
    · rename_i n f hr
      split at hi
      · cases hi
      · rename_i hin
        cases hi
        intro H locs ls hP hS hl
        have K := kk H locs ls hP hS hl
        rcases zRow_ok hr with ⟨h1, h2⟩ | ⟨h1, h2, h3⟩ | ⟨h1, h2, h3⟩ | ⟨h1, h2, h3⟩ | ⟨h1, h2⟩
        · subst h2
          exact va_iald hx hb hK hP q 0 (zW_at h1) rfl hin hdg K
        · subst h1 h2 h3
          exact va_ti hx hb z0 hS hin rfl hdg K
        · subst h1 h2 h3
          exact va_ti hx hb z1 hS hin rfl hdg K
        · subst h1 h2 h3
          exact va_ti hx hb z2 hS hin rfl hdg K
        · subst h1
          obtain ⟨g1, g2, g3⟩ := hE n f h2
          exact va_sld hx hb g1 g2 g3 hS hin hdg K
    · cases hi
  · cases hi
theorem zAle_ok (C : zCx p R s m args c cc nL o D tC adr A E) (hi : zAle E L S h = some f') (hdg : decode cc pc = .ok (.arraylength, 1))
    (kk : zWp p l e R s m args below meth c cells slots Q nL D tC adr A (pc + 1) f') : zWp p l e R s m args below meth c cells slots Q nL D tC adr A pc (L, S, h) := by
  obtain ⟨hx, hb, hml, hown, ho, hts, hK, hinj, hAin, ⟨⟨-, z0⟩, ⟨-, z1⟩, -, z2⟩, hE, -⟩ := C
  unfold zAle at hi
  split at hi
  · rename_i q r
    split at hi
    · rename_i n f hr
      cases hi
      intro H locs ls hP hS hl
      have K := kk H locs ls hP hS hl
      rcases zRow_ok hr with ⟨h1, h2⟩ | ⟨h1, h2, h3⟩ | ⟨h1, h2, h3⟩ | ⟨h1, h2, h3⟩ | ⟨h1, h2⟩
      · subst h2
        exact va_alen hx hb hK hP q 0 (zW_at h1) (ty := .int) rfl rfl hdg K
      · subst h1 h2 h3
        exact va_tlen hx hb z0 hS rfl hdg K
      · subst h1 h2 h3
        exact va_tlen hx hb z1 hS rfl hdg K
      · subst h1 h2 h3
        exact va_tlen hx hb z2 hS rfl hdg K
      · subst h1
        obtain ⟨g1, g2, g3⟩ := hE n f h2
        exact va_slen hx hb g1 g2 g3 hS hdg K
    · cases hi
  · cases hi
theorem zcE_row {q n j : Nat} {x : Int32} : zcE adr tC (zSet h q j x) q (.inr (.inl n)) = .inl (tC 0, n, .inl (upd (h.1 q) j x)) := by
  simp [zcE, zSet, va_up]
theorem zIas_ok (C : zCx p R s m args c cc nL o D tC adr A E) (hi : zIas L S h = some f') (hdg : decode cc pc = .ok (.iastore, 1))
    (kk : zWp p l e R s m args below meth c cells slots Q nL D tC adr A (pc + 1) f') : zWp p l e R s m args below meth c cells slots Q nL D tC adr A pc (L, S, h) := by
  obtain ⟨hx, hb, hml, hown, ho, hts, hK, hinj, hAin, -⟩ := C
  unfold zIas at hi
  split at hi
  · rename_i x i q r
    split at hi
    · rename_i n hl
      split at hi
      · cases hi
      · rename_i hin
        cases hi
        intro H locs ls hP hS hl'
        refine va_iast hx hb hK hP (zW_D hinj hAin) hS q 0 (zW_at hl) rfl hin hdg (fun H1 locs1 hP1 hD1 hS1 => kk H1 locs1 ls ?_ hS1 hl')
        rw [← zW_set (adr := adr) (tC := tC) (h := h) (h' := zSet h q i.toNatClampNeg x) hl zcE_row (fun j z hj => zcE_set j z hj)]
        exact hP1
    · cases hi
  · cases hi
theorem zLal_ok (C : zCx p R s m args c cc nL o D tC adr A E) (hi : zLal L S h = some f') (hdg : decode cc pc = .ok (.laload, 1))
    (kk : zWp p l e R s m args below meth c cells slots Q nL D tC adr A (pc + 1) f') : zWp p l e R s m args below meth c cells slots Q nL D tC adr A pc (L, S, h) := by
  obtain ⟨hx, hb, hml, hown, ho, hts, hK, hinj, hAin, -⟩ := C
  unfold zLal at hi
  split at hi
  · rename_i i q r
    split at hi
    · rename_i n hl
      split at hi
      · cases hi
      · rename_i hin
        cases hi
        intro H locs ls hP hS hl'
        exact va_lald hx hb hK hP q 1 (zW_at hl) rfl hin hdg (kk H locs ls hP hS hl')
    · cases hi
  · cases hi
theorem zcE_upl {q : Nat} {f : Nat → Int64} (i : Nat) (z : zL) (hi : i ≠ q) : zcE adr tC (h.1, va_up h.2 q f) i z = zcE adr tC h i z := by
  have e : va_up h.2 q f i = h.2 i := by simp [va_up, hi]
  rcases z with ⟨c, fs⟩ | n | n | ⟨t, ks⟩
  · simp only [zcE]
  · simp only [zcE]
  · simp only [zcE, e]
  · simp only [zcE]
theorem zLas_ok (C : zCx p R s m args c cc nL o D tC adr A E) (hi : zLas L S h = some f') (hdg : decode cc pc = .ok (.lastore, 1))
    (kk : zWp p l e R s m args below meth c cells slots Q nL D tC adr A (pc + 1) f') : zWp p l e R s m args below meth c cells slots Q nL D tC adr A pc (L, S, h) := by
  obtain ⟨hx, hb, hml, hown, ho, hts, hK, hinj, hAin, -⟩ := C
  unfold zLas at hi
  split at hi
  · rename_i x i q r
    split at hi
    · rename_i n hl
      split at hi
      · cases hi
      · rename_i hin
        cases hi
        intro H locs ls hP hS hl'
        refine va_last hx hb hK hP (zW_D hinj hAin) hS q 1 (zW_at hl) rfl hin hdg (fun H1 locs1 hP1 hD1 hS1 => kk H1 locs1 ls ?_ hS1 hl')
        have e1 : zcE adr tC (h.1, va_up h.2 q (vp_updL (h.2 q) i.toNatClampNeg x)) q (.inr (.inr (.inl n))) = .inl (tC 1, n, .inr (.inl (vp_updL (h.2 q) i.toNatClampNeg x))) := by simp [zcE, va_up]
        have e2 := zW_set (adr := adr) (tC := tC) (h := h) (h' := (h.1, va_up h.2 q (vp_updL (h.2 q) i.toNatClampNeg x))) hl e1 (fun j z hj => zcE_upl j z hj)
        show va_P D vwCl (zW adr tC (h.1, va_up h.2 q (vp_updL (h.2 q) i.toNatClampNeg x))) H1
        rw [← e2]
        exact hP1
    · cases hi
  · cases hi
theorem zAal_ok (C : zCx p R s m args c cc nL o D tC adr A E) (hi : zAal L S h = some f') (hdg : decode cc pc = .ok (.aaload, 1))
    (kk : zWp p l e R s m args below meth c cells slots Q nL D tC adr A (pc + 1) f') : zWp p l e R s m args below meth c cells slots Q nL D tC adr A pc (L, S, h) := by
  obtain ⟨hx, hb, hml, hown, ho, hts, hK, hinj, hAin, -⟩ := C
  unfold zAal at hi
  split at hi
  · rename_i i q r
    split at hi
    · rename_i t ks hl
      split at hi
      · cases hi
      · rename_i hin
        split at hi
        · rename_i q' hq'
          cases hi
          intro H locs ls hP hS hl'
          have K := kk H locs ls hP hS hl'
          have ht := List.all_eq_true.mp zLaid _ (List.mem_of_getElem? hl)
          have hlt : i.toNatClampNeg < ks.length := Nat.not_le.mp fun z => hin (Or.inr z)
          have hv : va_rf ((ks[i.toNatClampNeg]?).map adr) = .ref (adr q') := by rw [hq']; rfl
          have key : ∀ ty : FieldType, (zTy tC)[t]? = some (tC t, ty) → ty.isReference = true → W p l e R s m args below meth c H locs cells slots Q (F0 m pc ls (.int i :: .ref (adr q) :: r.map (zcv adr))) := fun ty h1 h2 =>
            W.aald (v := .ref (adr q')) (ty := ty) hx hb (hP q _ (zW_at hl)) ((hK.2 t _ h1).1 ks.length (fun j => va_rf ((ks[j]?).map adr))) h2 (fun z => by cases z) (by show ¬ (i < 0 ∨ (arrV _ _ _).slots.size ≤ _); rw [arrV_size]; exact hin) (by show (arrV _ _ _).slots[_]? = _; rw [arrV_read _ _ hlt, hv]) rfl rfl hdg K
          simp only [Bool.or_eq_true] at ht
          rcases ht with ht | ht
          · have e := Nat.eq_of_beq_eq_true ht
            subst e
            exact key (.object "MapItch$County") rfl rfl
          · have e := Nat.eq_of_beq_eq_true ht
            subst e
            exact key (.array .int) rfl rfl
        · cases hi
    · cases hi
  · cases hi
end ZG

section ZN
variable {p : Program} {l : Launch} {e : Env} {R : Room} {s : State} {m : MethodId} {args : Array Value} {below : List Frame} {meth : Method} {c : Code} {cells slots : Nat} {Q : State → Prop}
variable {cc : ByteArray} {nL o : Nat} {D : va_G} {tC : Nat → ClassId} {adr : Nat → Nat} {A : Nat → Prop} {E : zSc}
variable {pc : Nat} {L : zLo} {S : List Value} {h : zH}
/-- what a caller may take for granted of the runs of others -/
def zRec (l : Launch) (D : va_G) (tC : Nat → ClassId) (adr : Nat → Nat) (R : Room) (rec : Nat → zLo → zH → Option (Option Value × zH)) : Prop :=
  ∀ (M : Nat) (x : zE) (as : List Value) (h : zH) (out : Option Value × zH), zP[M]? = some x → (zSl as).length ≤ zx x → rec M (zEnt as (zx x)) h = some out → ∃ d : Nat, zMet l D tC adr d x as h out.1 out.2 ∧ (zrm d).frames + 1 ≤ R.frames ∧ 49 + (zrm d).locals ≤ R.locals
theorem zx_le {M : Nat} {x : zE} (hM : zP[M]? = some x) : zx x ≤ 30 := Nat.le_of_ble_eq_true (zAll zM6 hM)
theorem zSl_rev : ∀ as : List Value, (zSl as.reverse).length = (zSl as).length
  | [] => rfl
  | v :: as => by
    have ih := zSl_rev as
    unfold zSl at ih ⊢
    simp only [List.reverse_cons, List.flatMap_append, List.flatMap_cons, List.flatMap_nil, List.append_nil, List.length_append, ih]
    omega
theorem zQ_ok {k M a b w : Nat} {st : Bool} (ho : o < 15) (hf : zFind k (zQT.getD o []) = some (M, st, w, a, b)) {x : zE} (hM : zP[M]? = some x) : Cond.methodLink (zCn.getD o "") k (zy x) ∈ zTb ∧ (st = true → Cond.static (zy x) ∈ zTb) ∧ (st = false → Cond.instanceMethod (zy x) ∈ zTb ∧ Cond.selects (zy x).cls (zy x) (zy x) ∈ zTb) := by
  have hm := zRange (T := zQT) (g := zQok) zQall ho (zFind_mem hf)
  unfold zQok at hm
  dsimp only at hm
  rw [hM] at hm
  dsimp only at hm
  cases st with
  | true =>
    simp only [cond_true, Bool.and_eq_true, decide_eq_true_eq] at hm
    exact ⟨zTb_at hm.1 rfl, fun _ => zTb_at hm.2 rfl, (fun z => by cases z)⟩
  | false =>
    simp only [cond_false, Bool.and_eq_true, decide_eq_true_eq] at hm
    exact ⟨zTb_at hm.1 rfl, (fun z => by cases z), fun _ => ⟨zTb_at hm.2.1 rfl, zTb_at hm.2.2 rfl⟩⟩
theorem zPre_at (C : zCx p R s m args c cc nL o D tC adr A E) {H : Heap} {locs : List Loc} {as : List Value} (hP : va_P D vwCl (zW adr tC h) H) (hS : va_S A s.heap H locs) (U : State) (hU : U.heap = H) (hW : s.WarmedH U.vm) : zPre D tC adr as h (as.map (zcv adr)).toArray U := by
  obtain ⟨hx, hb, hml, hown, ho, hts, hK, hinj, hAin, hst, hE, hR1, hR2⟩ := C
  refine ⟨rfl, by rw [hU]; exact hP, va_K.moved hW.alike hK, ?_⟩
  rw [hU]
  exact zStat_go hW.alike (fun a h1 h2 => hS.2.1 a h1 h2) (fun q ⟨k, h1, h2⟩ => by rw [h2]; exact hAin k h1) hst
set_option maxHeartbeats 2000000 in
theorem zCallS_ok (C : zCx p R s m args c cc nL o D tC adr A E) {rec : Nat → zLo → zH → Option (Option Value × zH)} (hrec : zRec l D tC adr R rec) (hcl : cells ≤ R.cells) (hsl : slots ≤ R.slots) {k : Nat} {r : List Value × zH} (hi : zCallK rec o false k S h = some r) (hdg : decode cc pc = .ok (.invokestatic k, 3))
    (kk : zWp p l e R s m args below meth c cells slots Q nL D tC adr A (pc + 3) (L, r)) : zWp p l e R s m args below meth c cells slots Q nL D tC adr A pc (L, S, h) := by
  obtain ⟨hx, hb, hml, hown, ho, hts, hK, hinj, hAin, hst, hE, hR1, hR2⟩ := id C
  unfold zCallK at hi
  split at hi
  · cases hi
  · rename_i M st w hf
    obtain ⟨w0, wa, wb⟩ := w
    cases st with
    | false => cases hi
    | true =>
      dsimp only [cond, BEq.beq, instBEqOfDecidableEq] at hi
      change (match zP[M]? with | none => none | some e => _) = _ at hi
      split at hi
      · cases hi
      · rename_i x hM
        split at hi
        · cases hi
        · rename_i hc
          split at hi
          · cases hi
          · rename_i rv h' hr
            cases hi
            have hc1 : ¬ S.length < zn x := fun z => hc (Or.inl z)
            have hc2 : ¬ 8 < zCat (S.drop (zn x)) := fun z => hc (Or.inr (Or.inl z))
            have hc4 : ¬ zx x < (zSl (S.take (zn x))).length := fun z => hc (Or.inr (Or.inr (Or.inr z)))
            obtain ⟨hlk, hs1, -⟩ := zQ_ok ho hf hM
            have hini : Cond.initialized (zy x).cls ∈ zTb := zTb_at (of_decide_eq_true (zAll zM1 hM)) rfl
            obtain ⟨d, hMet, hd1, hd2⟩ := hrec M x (S.take (zn x)).reverse h (rv, h') hM (by rw [zSl_rev]; omega) hr
            have hxl := zx_le hM
            intro H locs ls hP hS hl
            refine zRunW (rv := rv.map (zcv adr)) (B := fun t => va_P D vwCl (zW adr tC h') t.heap) (A1 := zA adr) (free := zA adr) (rest := (S.drop (zn x)).map (zcv adr)) (va_runS (As := ((S.take (zn x)).reverse.map (zcv adr))) ⟨hx, hb, hml, hown, hts⟩ hMet (va_cwS (ws' := zTb) (zn x) hts (zws_in hM (ex := [.methodLink (zCn.getD o "") k (zy x), .static (zy x), .initialized (zy x).cls]) ?_) rfl rfl rfl (zm_d hM) ⟨hd1, by omega⟩) ⟨zPre_blind, fun U hU hW => zPre_at C hP hS U hU hW⟩ rfl ?_ hl.2.1 ?_ ?_ hdg ⟨hcl, hsl⟩) hS (fun q _ ⟨k, h1, h2⟩ => by rw [h2]; exact hAin k h1) (fun q ⟨k, h1, h2⟩ => by rw [h2]; exact hAin k h1) (fun t H1 locs1 ht hB hS1 => ?_)
            · intro w hw
              simp only [List.mem_cons, List.not_mem_nil, or_false] at hw
              rcases hw with rfl | rfl | rfl
              · exact hlk
              · exact hs1 rfl
              · exact hini
            · rw [List.length_map, List.length_reverse, List.length_take]
              omega
            · show S.map (zcv adr) = _
              rw [List.map_reverse, List.reverse_reverse, ← List.map_append, List.take_append_drop]
            · show 2 * 0 + _ ≤ 8
              rw [zcv_sum]
              omega
            · have K := kk H1 locs1 ls (by rw [← ht]; exact hB) hS1 hl
              have e1 : (rv.toList ++ List.drop (zn x) S).map (zcv adr) = (rv.map (zcv adr)).toList ++ (S.drop (zn x)).map (zcv adr) := by
                rw [List.map_append]
                cases rv <;> rfl
              dsimp only at K
              rw [← e1]
              exact K
set_option maxHeartbeats 2000000 in
theorem zCallV_ok (C : zCx p R s m args c cc nL o D tC adr A E) {rec : Nat → zLo → zH → Option (Option Value × zH)} (hrec : zRec l D tC adr R rec) (hcl : cells ≤ R.cells) (hsl : slots ≤ R.slots) {k : Nat} {r : List Value × zH} (hi : zCallK rec o true k S h = some r) (hdg : decode cc pc = .ok (.invokevirtual k, 3))
    (kk : zWp p l e R s m args below meth c cells slots Q nL D tC adr A (pc + 3) (L, r)) : zWp p l e R s m args below meth c cells slots Q nL D tC adr A pc (L, S, h) := by
  obtain ⟨hx, hb, hml, hown, ho, hts, hK, hinj, hAin, hst, hE, hR1, hR2⟩ := id C
  unfold zCallK at hi
  split at hi
  · cases hi
  · rename_i M st w hf
    obtain ⟨w0, wa, wb⟩ := w
    cases st with
    | true => cases hi
    | false =>
      dsimp only [cond, BEq.beq, instBEqOfDecidableEq] at hi
      change (match zP[M]? with | none => none | some e => _) = _ at hi
      split at hi
      · cases hi
      · rename_i x hM
        split at hi
        · cases hi
        · rename_i hc
          split at hi
          · cases hi
          · rename_i rv h' hr
            cases hi
            have hc1 : ¬ S.length < zn x + 1 := fun z => hc (Or.inl z)
            have hc2 : ¬ 8 < zCat (S.drop (zn x + 1)) := fun z => hc (Or.inr (Or.inl z))
            have hc3 : ¬ zRecv (zo x) (S.take (zn x + 1)).reverse = false := fun z => hc (Or.inr (Or.inr (Or.inl ⟨rfl, z⟩)))
            have hc4 : ¬ zx x < (zSl (S.take (zn x + 1))).length := fun z => hc (Or.inr (Or.inr (Or.inr z)))
            obtain ⟨hlk, -, hs1⟩ := zQ_ok ho hf hM
            obtain ⟨hs1, hs2⟩ := hs1 rfl
            have hini : Cond.initialized (zy x).cls ∈ zTb := zTb_at (of_decide_eq_true (zAll zM1 hM)) rfl
            obtain ⟨d, hMet, hd1, hd2⟩ := hrec M x (S.take (zn x + 1)).reverse h (rv, h') hM (by rw [zSl_rev]; omega) hr
            have hxl := zx_le hM
            -- the receiver
            have hlen : (S.take (zn x + 1)).reverse.length = zn x + 1 := by rw [List.length_reverse, List.length_take]; omega
            have hsp : S.map (zcv adr) = ((S.take (zn x + 1)).reverse.map (zcv adr)).reverse ++ (S.drop (zn x + 1)).map (zcv adr) := by
              rw [List.map_reverse, List.reverse_reverse, ← List.map_append, List.take_append_drop]
            generalize hrs : (S.take (zn x + 1)).reverse = as at hc3 hr hMet hlen hsp
            unfold zRecv at hc3
            split at hc3
            · rename_i q as'
              split at hc3
              · rename_i ci fs hlq
                have hci : zVw.getD (zo x) 99 = ci := by
                  cases hb9 : Nat.beq (zVw.getD (zo x) 99) ci with
                  | true => exact Nat.eq_of_beq_eq_true hb9
                  | false => exact absurd hb9 hc3
                have hvw := zAll zVwAll hM
                simp only [Bool.or_eq_true, decide_eq_true_eq] at hvw
                intro H locs ls hP hS hl
                have hcell := hP q _ (zW_at hlq)
                obtain ⟨rr, hrr, hob⟩ := id hcell
                have hcl2 : vwCl[ci]? = some rr := hrr
                have hlt : ci < vwCl.length := (List.getElem?_eq_some_iff.mp hcl2).1
                have hname : rr.1 = (zy x).cls := by
                  rcases hvw with h99 | h99
                  · have := Nat.eq_of_beq_eq_true h99
                    rw [hci] at this
                    rw [this] at hlt
                    exact absurd hlt (by decide)
                  · rw [hci] at h99
                    rw [List.getD_eq_getElem?_getD, hcl2] at h99
                    exact h99
                have hrv := va_recv (s := s) hK hP hcl2 (zW_at hlq)
                rw [hname] at hrv
                have hlen' : as'.length = zn x := by simpa using hlen
                refine zRunW (rv := rv.map (zcv adr)) (B := fun t => va_P D vwCl (zW adr tC h') t.heap) (A1 := zA adr) (free := zA adr) (rest := (S.drop (zn x + 1)).map (zcv adr)) (va_runV (C := (zy x).cls) (b := adr q) (As := as'.map (zcv adr)) ⟨hx, hb, hml, hown, hts⟩ hMet (cwV (ws' := zTb) (zn x) hts (zws_in hM (ex := [.methodLink (zCn.getD o "") k (zy x), .instanceMethod (zy x), .selects (zy x).cls (zy x) (zy x), .initialized (zy x).cls]) ?_) rfl rfl rfl ⟨rfl, zm_d hM⟩ ⟨hd1, by omega⟩) ⟨zPre_blind, hrv, fun U hU hW => zPre_at C hP hS U hU hW⟩ rfl ?_ hl.2.1 ?_ ?_ hdg ⟨hcl, hsl⟩) hS (fun q _ ⟨k, h1, h2⟩ => by rw [h2]; exact hAin k h1) (fun q ⟨k, h1, h2⟩ => by rw [h2]; exact hAin k h1) (fun t H1 locs1 ht hB hS1 => ?_)
                · intro w hw
                  simp only [List.mem_cons, List.not_mem_nil, or_false] at hw
                  rcases hw with rfl | rfl | rfl | rfl
                  · exact hlk
                  · exact hs1
                  · exact hs2
                  · exact hini
                · rw [List.length_map]
                  exact hlen'
                · show S.map (zcv adr) = _
                  rw [hsp]
                  simp [zcv]
                · show 2 * 0 + _ ≤ 8
                  rw [zcv_sum]
                  omega
                · have K := kk H1 locs1 ls (by rw [← ht]; exact hB) hS1 hl
                  have e1 : (rv.toList ++ List.drop (zn x + 1) S).map (zcv adr) = (rv.map (zcv adr)).toList ++ (S.drop (zn x + 1)).map (zcv adr) := by
                    rw [List.map_append]
                    cases rv <;> rfl
                  dsimp only at K
                  rw [← e1]
                  exact K
              · exact absurd rfl hc3
            · exact absurd rfl hc3
theorem zOne_ok (C : zCx p R s m args c cc nL o D tC adr A E) {rec : Nat → zLo → zH → Option (Option Value × zH)} (hrec : zRec l D tC adr R rec) (hcl : cells ≤ R.cells) (hsl : slots ≤ R.slots) {i : Instr} {q : Nat × zF} (hi : zOne E rec o pc i L S h = some q) {n : Nat} (hdg : decode cc pc = .ok (i, n)) (hn : zSw i = true ∨ n = zLen i)
    (k : zWp p l e R s m args below meth c cells slots Q nL D tC adr A q.1 q.2) : zWp p l e R s m args below meth c cells slots Q nL D tC adr A pc (L, S, h) := by
  unfold zOne at hi
  split at hi
  · rename_i j
    have hn : n = 3 := hn.elim (fun z => by cases z) id
    subst hn
    split at hi
    · rename_i pos hf
      split at hi
      · rename_i r hr
        cases hi
        exact zCopy_ok C hf hr hdg k
      · cases hi
    · split at hi
      · rename_i r hr
        cases hi
        exact zCallS_ok C hrec hcl hsl hr hdg k
      · cases hi
  · rename_i j
    have hn : n = 3 := hn.elim (fun z => by cases z) id
    subst hn
    split at hi
    · rename_i r hr
      cases hi
      exact zCallV_ok C hrec hcl hsl hr hdg k
    · cases hi
  · exact zS_ok C hi hdg hn k
end ZN

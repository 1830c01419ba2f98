/-! the analyser is right -/
def gNt (Q : Option Value → zH → Prop) (D : Nat) (gs : List zFr) (h : zH) : Prop := match gs with
  | [] => False
  | g :: rs => zwM (D - rs.length) g.1 g.2.1 g.2.2.1 g.2.2.2 h (fun rv h' => zAft Q (D - rs.length + 1) rs rv h')
def rkOk (ρ : List Int) (rk : Option (Nat × List (aA × Bool))) (m0 : Nat) : Prop := match rk with
  | none => True
  | some (ph, s) => ph < 100 ∧ ∃ vs, gVs ρ s vs ∧ (∀ a ∈ vs, mOkV a) ∧ m0 = (100 - ph) * mB ^ 8 + mS 8 vs
theorem rkOk_mono {ρ ρ' : List Int} (hp : gPre ρ ρ') {rk : Option (Nat × List (aA × Bool))} {m0 : Nat} (h : rkOk ρ rk m0) : rkOk ρ' rk m0 := by
  unfold rkOk at h ⊢
  split at h
  · exact trivial
  · obtain ⟨h1, vs, h2, h3, h4⟩ := h
    exact ⟨h1, vs, gVs_mono hp h2, h3, h4⟩
theorem aArr_ok {ρ : List Int} {x : aX} {h : zH} {A : List (Option aV)} {L : zLo} {rk : Option (Nat × List (aA × Bool))} {m0 : Nat} {v : aH} (hx : gX ρ x h) (ht : hTy h) (hL : gL ρ A L) (hr : rkOk ρ rk m0) (hn : v.2.2.1.length ≤ 8) (ha : aArr rk x A v = true) : lOkP v.1 L ∧ mOk h v.2.1 ∧ (rk ≠ none → hMs v L h < m0) := by
  unfold aArr at ha
  simp only [Bool.and_eq_true] at ha
  obtain ⟨⟨h1, h2⟩, h3⟩ := ha
  refine ⟨aLoc_ok hx hL h1, aCells_ok hx ht h2, fun hne => ?_⟩
  cases rk with
  | none => exact absurd rfl hne
  | some s =>
    obtain ⟨ph, s⟩ := s
    obtain ⟨hp, vs, g1, g2, rfl⟩ := hr
    dsimp only at h3
    rw [Bool.or_eq_true] at h3
    unfold hMs
    have hlt : mS 8 (v.2.2.1.map (hVal L h)) < mB ^ 8 := mS_lt 8 _ (fun a ha => by
      obtain ⟨k, -, rfl⟩ := List.mem_map.mp ha
      exact hVal_ok L h k)
    rcases h3 with h3 | h3
    · have h4 := zblt h3
      calc (100 - v.2.2.2) * mB ^ 8 + mS 8 (v.2.2.1.map (hVal L h)) < (100 - v.2.2.2) * mB ^ 8 + mB ^ 8 := by omega
        _ = (100 - v.2.2.2 + 1) * mB ^ 8 := by rw [Nat.succ_mul]
        _ ≤ (100 - ph) * mB ^ 8 := Nat.mul_le_mul_right _ (by omega)
        _ ≤ (100 - ph) * mB ^ 8 + mS 8 vs := Nat.le_add_right _ _
    · rw [Bool.and_eq_true] at h3
      have e := Nat.eq_of_beq_eq_true h3.1
      split at h3
      · rename_i t ht2
        have g3 := gRks hx hL v.2.2.1 t ht2
        have := gDec 8 s t vs _ g1 g3 g2 (fun a ha => by
          obtain ⟨k, -, rfl⟩ := List.mem_map.mp ha
          exact hVal_ok L h k) (by rw [List.length_map]; exact hn) h3.2
        rw [e]
        omega
      · cases h3.2
def rvOk (ρ : List Int) (rv : Option aV) (w : Option Value) : Prop := match rv, w with
  | none, none => True
  | some a, some v => gV ρ a v
  | _, _ => False
theorem aRet_ok {ρ : List Int} {x : aX} {h : zH} {ret : Option FieldType} {i : Instr} {B : List aV} {S : List Value} {rv : Option aV} (hx : gX ρ x h) (hS : gS ρ B S) (ha : aRetOk ret i x B = some rv) : ∃ w : Option Value, zRet ret i S = some w ∧ rvOk ρ rv w := by
  unfold aRetOk at ha
  split at ha
  · split at ha
    · rename_i a he
      cases ha
      obtain ⟨v1, s1, rfl, hv1, hT⟩ := gS_cons hS
      obtain ⟨u, rfl, hu⟩ := gV_i hv1
      cases s1 with
      | nil => exact ⟨some (.int u), rfl, hu⟩
      | cons _ _ => exact hT.elim
    · rename_i a he
      obtain ⟨hc, ha⟩ := bif_some' ha
      cases ha
      obtain ⟨v1, s1, rfl, hv1, hT⟩ := gS_cons hS
      obtain ⟨u, rfl, hu⟩ := gV_i hv1
      simp only [Bool.and_eq_true, decide_eq_true_eq] at hc
      have bu := gBd hx hu
      have h01 : u = 0 ∨ u = 1 := by
        have : u.toInt = 0 ∨ u.toInt = 1 := by omega
        rcases this with h0 | h0
        · exact Or.inl (Int32.toInt_inj.mp h0)
        · exact Or.inr (Int32.toInt_inj.mp h0)
      cases s1 with
      | nil =>
        refine ⟨some (.int u), ?_, hu⟩
        show (if u = 0 ∨ u = 1 then some (some (Value.int u)) else none) = _
        rw [if_pos h01]
      | cons _ _ => exact hT.elim
    · cases ha
  · split at ha
    · rename_i a he
      cases ha
      obtain ⟨v1, s1, rfl, hv1, hT⟩ := gS_cons hS
      obtain ⟨u, rfl, hu⟩ := gV_l hv1
      cases s1 with
      | nil => exact ⟨some (.long u), rfl, hu⟩
      | cons _ _ => exact hT.elim
    · cases ha
  · split at ha
    · cases ha
      cases S with
      | nil => exact ⟨none, rfl, trivial⟩
      | cons _ _ => exact hS.elim
    · cases ha
  · cases ha
theorem aPost_ok {ρ : List Int} {x : aX} {h : zH} {post : List aO} {rv : Option aV} {w : Option Value} (hx : gX ρ x h) (ht : hTy h) (hv : rvOk ρ rv w) (ha : aPostOk post x rv = true) : ∃ z ∈ post, oOk z w h := by
  unfold aPostOk at ha
  obtain ⟨z, hz, hc⟩ := List.any_eq_true.mp ha
  rw [Bool.and_eq_true] at hc
  refine ⟨z, hz, ?_, aCells_ok hx ht hc.2⟩
  have hc := hc.1
  cases rv with
  | none =>
    cases w with
    | none =>
      cases hz1 : z.1 with
      | none => exact trivial
      | some p => rw [hz1] at hc; cases hc
    | some v => exact hv.elim
  | some a =>
    cases w with
    | none => exact hv.elim
    | some v =>
      cases hz1 : z.1 with
      | none => rw [hz1] at hc; cases hc
      | some p =>
        rw [hz1] at hc
        exact aIn_ok hx hv hc
section GO
variable {T : List (Nat × aY)} {inl : List Nat} {W : List (Nat × Nat × Nat)} {D : Nat} {hs : List (Nat × List aH)} {post : List aO} {rk : Option (Nat × List (aA × Bool))} {M0 m0 : Nat} {h0 : zH} {Q : Option Value → zH → Prop}
theorem zwM_one {d M pc : Nat} {e : zE} {i : Instr} {L : zLo} {S : List Value} {h : zH} {Q : Option Value → zH → Prop} {pc' : Nat} {f : zF} (hM : zP[M]? = some e) (hf : zFind pc (zk e) = some i) (hi : aIsRet i = false) (hs : zS none (zo e) pc i L S h = some (pc', f)) (hc : ∀ rec, zOne none rec (zo e) pc i L S h = zS none (zo e) pc i L S h) (hw : zwM d M pc' f.1 f.2.1 f.2.2 Q) : zwM d M pc L S h Q := by
  obtain ⟨e', he', hw⟩ := hw
  cases hM.symm.trans he'
  exact ⟨e, hM, zw_one hf (zRet_none hi) hs hc hw⟩
/-- what the induction gives of the states that come next -/
def anaH (W : List (Nat × Nat × Nat)) (D : Nat) (rk : Option (Nat × List (aA × Bool))) (M0 m0 : Nat) (h0 : zH) (Q : Option Value → zH → Prop) (s : aS) : Prop :=
  ∀ (ρ : List Int) (h : zH) (gs : List zFr), gX ρ s.1 h → hTy h → hW W h0 h → gFs ρ s.2 gs → (s.2.getLast?).map (·.1) = some M0 → s.2.length ≤ D + 1 → rkOk ρ rk m0 → gNt Q D gs h
theorem call_ok {ρ : List Int} {x : aX} {h : zH} {A : List (Option aV)} {B : List aV} {L : zLo} {S : List Value} {M pc k : Nat} {e : zE} {i : Instr} {vir : Bool} {r : List aF} {rs : List zFr} {l : List aS} (hT : ∀ e ∈ T, yOk e.1 e.2) (hM : zP[M]? = some e) (hf : zFind pc (zk e) = some i) (hir : aIsRet i = false)
    (hone : ∀ rec, zOne none rec (zo e) pc i L S h = match zCallK rec (zo e) vir k S h with
      | some r => some (pc + 3, L, r)
      | none => none)
    (hx : gX ρ x h) (ht : hTy h) (hw0 : hW W h0 h) (hL : gL ρ A L) (hS : gS ρ B S) (hr : gFs ρ r rs) (hb : (((M, pc, A, B) :: r).getLast?).map (·.1) = some M0) (hlen : r.length ≤ D) (hrk : rkOk ρ rk m0)
    (ha : aCall T inl W (zo e) vir k (D - r.length) x M pc A B r = some l) (ih : ∀ s ∈ l, anaH W D rk M0 m0 h0 Q s) : zwM (D - rs.length) M pc L S h (fun rv h' => zAft Q (D - rs.length + 1) rs rv h') := by
  have hlr := gFs_len hr
  unfold aCall at ha
  split at ha
  · cases ha
  · rename_i M' st w hq
    cases hst : (st == vir) with
    | true => rw [hst] at ha; cases ha
    | false =>
      rw [hst] at ha
      dsimp only [cond] at ha
      split at ha
      · cases ha
      · rename_i e' hM'
        cases hc : (Nat.blt B.length (zn e' + vir.toNat) || Nat.blt 8 (aCatS (B.drop (zn e' + vir.toNat))) || (vir && !aRecv (zo e') (B.take (zn e' + vir.toNat)).reverse) || Nat.blt (zx e') (aCatS (B.take (zn e' + vir.toNat))) || Nat.beq (D - r.length) 0) with
        | true => rw [hc] at ha; cases ha
        | false =>
          rw [hc] at ha
          simp only [Bool.or_eq_false_iff] at hc
          obtain ⟨⟨⟨⟨c1, c2⟩, c3⟩, c4⟩, c5⟩ := hc
          have nb : ∀ {a b : Nat}, Nat.blt a b = false → ¬ a < b := fun {a b} hh z => by rw [zlt z] at hh; cases hh
          have hTk := gS_take (zn e' + vir.toNat) hS
          have hDr := gS_drop (zn e' + vir.toNat) hS
          have hAs := gS_rev hTk
          have hcond : ¬ (S.length < zn e' + vir.toNat ∨ 8 < zCat (S.drop (zn e' + vir.toNat)) ∨ (vir = true ∧ zRecv (zo e') (S.take (zn e' + vir.toNat)).reverse = false) ∨ zx e' < (zSl (S.take (zn e' + vir.toNat))).length) := by
            rintro (z | z | z | z)
            · rw [← gS_len hS] at z; exact nb c1 z
            · rw [← gS_cat hDr] at z; exact nb c2 z
            · rw [z.1] at c3
              have h7 : aRecv (zo e') (B.take (zn e' + vir.toNat)).reverse = true := by
                cases h8 : aRecv (zo e') (B.take (zn e' + vir.toNat)).reverse with
                | true => rfl
                | false => rw [z.1] at h8; rw [h8] at c3; cases c3
              have := gRecv hAs h7
              rw [z.2] at this
              cases this
            · rw [zSl_cat, ← gS_cat hTk] at z; exact nb c4 z
          have hd0 : D - rs.length ≠ 0 := fun z => by
            rw [hlr] at c5
            rw [z] at c5
            cases c5
          obtain ⟨d', hd'⟩ : ∃ d', D - rs.length = d' + 1 := ⟨D - rs.length - 1, by omega⟩
          simp only [cond_false] at ha
          rw [hd']
          refine ⟨e, hM, zw_call hf (zRet_none hir) hone hq hst hM' hcond ?_⟩
          have back : ∀ (rv : Option Value) (h' : zH), gNt Q D ((M, pc + 3, L, rv.toList ++ S.drop (zn e' + vir.toNat)) :: rs) h' → zw none (zo e) (zk e) (zr e) (d' + 1) (pc + 3) L (rv.toList ++ S.drop (zn e' + vir.toNat)) h' (fun rv h' => zAft Q (d' + 1 + 1) rs rv h') := by
            intro rv h' hg
            obtain ⟨e2, he2, hw2⟩ := hg
            cases hM.symm.trans he2
            have hw2 : zw none (zo e) (zk e) (zr e) (D - rs.length) (pc + 3) L (rv.toList ++ S.drop (zn e' + vir.toNat)) h' (fun rv h' => zAft Q (D - rs.length + 1) rs rv h') := hw2
            rw [hd'] at hw2
            exact hw2
          split at ha
          · rename_i y hy
            obtain ⟨y1, y2, y3, y4⟩ := aSum_ok hy
            obtain ⟨hWc, hl⟩ := bif_some ha
            subst hl
            have hz : zm y.2.2.2.2 M' (S.take (zn e' + vir.toNat)).reverse h (yQ y.2.2.2.1 y.2.2.1 h) := hT _ y1 _ h ht (aIns_ok hx hAs y3) (aCells_ok hx ht y4)
            refine zm_imp (zm_le (by omega) hz) (fun rv h' hq' => back rv h' ?_)
            obtain ⟨q1, q2, z, hz1, hz2, hz3⟩ := hq'
            have hx1 : gX ρ (aKeep x (fun e => y.2.2.2.1.all fun w => aFar x w.1 w.2.1 w.2.2 e)) h' := gKeep hx _ (fun e he h1 h2 => gFarAll hx h1 h2 q2)
            have hw1 : hW W h0 h' := hw0.tr (hW_in hWc q2)
            have hmem := List.mem_map_of_mem (f := fun z : aO => match z.1 with
              | none => ((aMkM z.2 (aKeep x (fun e => y.2.2.2.1.all fun w => aFar x w.1 w.2.1 w.2.2 e)), (M, pc + 3, A, B.drop (zn e' + vir.toNat)) :: r) : aS)
              | some (l, lo, hi, nz) => let p := aNew (aKeep x (fun e => y.2.2.2.1.all fun w => aFar x w.1 w.2.1 w.2.2 e)) lo hi nz 0 (0, 0) (0, 0)
                (aMkM z.2 p.1, (M, pc + 3, A, .inl (l, p.2) :: B.drop (zn e' + vir.toNat)) :: r)) hz1
            have hI := ih _ hmem
            cases hz0 : z.1 with
            | none =>
              rw [hz0] at hz2 hI
              cases rv with
              | some v => exact hz2.elim
              | none =>
                obtain ⟨ρ', p1, p2⟩ := aMkM_ok q1 z.2 ρ _ hx1 hz3
                exact hI ρ' h' ((M, pc + 3, L, S.drop (zn e' + vir.toNat)) :: rs) p2 q1 hw1 ⟨rfl, rfl, gL_mono p1 hL, gS_mono p1 hDr, gFs_mono p1 hr⟩ (by
                  cases r with
                  | nil => exact hb
                  | cons f r => exact hb) (by show r.length + 1 ≤ D + 1; omega) (rkOk_mono p1 hrk)
            | some p =>
              obtain ⟨lg, lo, hi, nz⟩ := p
              rw [hz0] at hz2 hI
              cases rv with
              | none => exact hz2.elim
              | some v =>
                have key : ∀ u : Int, lo ≤ u → u ≤ hi → (nz = true → u ≠ 0) → (∀ ρ', gI ρ' (aNew (aKeep x (fun e => y.2.2.2.1.all fun w => aFar x w.1 w.2.1 w.2.2 e)) lo hi nz 0 (0, 0) (0, 0)).2 u → gV ρ' (.inl (lg, (aNew (aKeep x (fun e => y.2.2.2.1.all fun w => aFar x w.1 w.2.1 w.2.2 e)) lo hi nz 0 (0, 0) (0, 0)).2)) v) → gNt Q D ((M, pc + 3, L, (some v).toList ++ S.drop (zn e' + vir.toNat)) :: rs) h' := by
                  intro u u1 u2 u3 u4
                  obtain ⟨g1, g2⟩ := gNew0 (nz := nz) (a := (0, 0)) (b := (0, 0)) hx1 u1 u2 u3
                  obtain ⟨ρ', p1, p2⟩ := aMkM_ok q1 z.2 _ _ g1 hz3
                  have p3 := gPre.one.tr p1
                  exact hI ρ' h' ((M, pc + 3, L, v :: S.drop (zn e' + vir.toNat)) :: rs) p2 q1 hw1 ⟨rfl, rfl, gL_mono p3 hL, ⟨u4 ρ' (gI_mono p1 g2), gS_mono p3 hDr⟩, gFs_mono p3 hr⟩ (by
                    cases r with
                    | nil => exact hb
                    | cons f r => exact hb) (by show r.length + 1 ≤ D + 1; omega) (rkOk_mono p3 hrk)
                cases lg with
                | false =>
                  obtain ⟨u, rfl, u1, u2, u3⟩ := hz2
                  exact key u.toInt u1 u2 u3 (fun _ z => z)
                | true =>
                  obtain ⟨u, rfl, u1, u2, u3⟩ := hz2
                  exact key u.toInt u1 u2 u3 (fun _ z => z)
          · obtain ⟨hin, hl⟩ := bif_some ha
            subst hl
            have hI := ih _ (List.mem_singleton.mpr rfl) ρ h ((M', 0, zEnt (S.take (zn e' + vir.toNat)).reverse (zx e'), []) :: (M, pc + 3, L, S.drop (zn e' + vir.toNat)) :: rs) hx ht hw0 ⟨rfl, rfl, gL_ent hAs, trivial, rfl, rfl, hL, hDr, hr⟩ (by
              cases r with
              | nil => exact hb
              | cons f r => exact hb) (by show r.length + 1 + 1 ≤ D + 1; omega) hrk
            obtain ⟨e3, he3, hw3⟩ := hI
            cases hM'.symm.trans he3
            refine zm_imp (Q := fun rv h' => zAft Q (D - (rs.length + 1) + 1) ((M, pc + 3, L, S.drop (zn e' + vir.toNat)) :: rs) rv h') (zm_of hM' ?_) (fun rv h' hq' => back rv h' ?_)
            · have ed : D - (rs.length + 1) = d' := by omega
              have hw3 : zw none (zo e') (zk e') (zr e') (D - (rs.length + 1)) 0 (zEnt (S.take (zn e' + vir.toNat)).reverse (zx e')) [] h (fun rv h' => zAft Q (D - (rs.length + 1) + 1) ((M, pc + 3, L, S.drop (zn e' + vir.toNat)) :: rs) rv h') := hw3
              rw [ed] at hw3
              rw [ed]
              exact hw3
            · have ed : D - (rs.length + 1) + 1 = D - rs.length := by omega
              rw [ed] at hq'
              exact hq'
end GO

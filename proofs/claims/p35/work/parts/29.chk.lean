section GP
variable {T : List (Nat × aY)} {inl : List Nat} {W : List (Nat × Nat × Nat)} {D : Nat} {hs : List (Nat × List aH)} {post : List aO} {rk : Option (Nat × List (aA × Bool))} {M0 m0 : Nat} {h0 : zH}
theorem ana_ok (hT : ∀ e ∈ T, yOk e.1 e.2) (hlen8 : ∀ pc invs, zFind pc hs = some invs → ∀ v ∈ invs, v.2.2.1.length ≤ 8)
    (hd : ∀ (pc : Nat) (invs : List aH) (v : aH) (L : zLo) (h : zH), zFind pc hs = some invs → v ∈ invs → lOkP v.1 L → mOk h v.2.1 → hTy h → hW W h0 h → (rk ≠ none → hMs v L h < m0) → zwM D M0 pc L [] h (yQ W post h0)) :
    ∀ (n : Nat) (first : Bool) (s : aS), ana T inl W D hs post rk n first s = true → anaH W D rk M0 m0 h0 (yQ W post h0) s
  | 0, first, s, ha => by unfold ana at ha; cases ha
  | n + 1, first, (x, []), ha => by unfold ana at ha; cases ha
  | n + 1, first, (x, (M, pc, A, B) :: r), ha => by
    intro ρ h gs hx ht hw0 hfs hb hlen hrk
    have IH := ana_ok hT hlen8 hd n false
    cases gs with
    | nil => exact hfs.elim
    | cons g rs =>
      obtain ⟨Mg, pcg, L, S⟩ := g
      obtain ⟨e1, e2, hL, hS, hr⟩ := hfs
      have e1 : M = Mg := e1
      have e2 : pc = pcg := e2
      subst e1
      subst e2
      have hlr := gFs_len hr
      have hlen : r.length ≤ D := by
        have : r.length + 1 ≤ D + 1 := hlen
        omega
      unfold ana at ha
      dsimp only at ha
      cases hM : zP[M]? with
      | none => rw [hM] at ha; cases ha
      | some e =>
        rw [hM] at ha
        dsimp only at ha
        split at ha
        · rename_i invs hz
          -- arrival at a head
          cases r with
          | cons f r =>
            rw [show (first || !(f :: r).isEmpty) = true by cases first <;> rfl] at hz
            cases hz
          | nil =>
            cases first with
            | true => cases hz
            | false =>
              have hz : zFind pc hs = some invs := hz
              cases rs with
              | cons _ _ => exact hr.elim
              | nil =>
                rw [Bool.and_eq_true] at ha
                cases B with
                | cons _ _ => cases ha.1
                | nil =>
                  cases S with
                  | cons _ _ => exact hS.elim
                  | nil =>
                    obtain ⟨v, hv, hav⟩ := List.any_eq_true.mp ha.2
                    obtain ⟨q1, q2, q3⟩ := aArr_ok hx ht hL hrk (hlen8 pc invs hz v hv) hav
                    have hMM : M = M0 := by simpa using hb
                    subst hMM
                    exact hd pc invs v L h hz hv q1 q2 ht hw0 q3
        · split at ha
          · cases ha
          · rename_i i hf
            cases hir : aIsRet i with
            | true =>
              rw [hir] at ha
              dsimp only [cond] at ha
              split at ha
              · cases ha
              · rename_i rv hrv
                obtain ⟨w, hw1, hw2⟩ := aRet_ok hx hS hrv
                refine ⟨e, hM, zw_ret hf hw1 ?_⟩
                cases r with
                | nil =>
                  cases rs with
                  | cons _ _ => exact hr.elim
                  | nil =>
                    obtain ⟨z, hz1, hz2⟩ := aPost_ok hx ht hw2 ha
                    exact ⟨ht, hw0, z, hz1, hz2⟩
                | cons f r =>
                  cases rs with
                  | nil => exact hr.elim
                  | cons g rs =>
                    obtain ⟨Mf, pf, Af, Bf⟩ := f
                    obtain ⟨Mg, pg, Lg, Sg⟩ := g
                    obtain ⟨f1, f2, f3, f4, f5⟩ := hr
                    have f1 : Mf = Mg := f1
                    have f2 : pf = pg := f2
                    subst f1
                    subst f2
                    have hst : gS ρ (rv.toList ++ Bf) (w.toList ++ Sg) := by
                      cases rv with
                      | none =>
                        cases w with
                        | none => exact f4
                        | some _ => exact hw2.elim
                      | some a =>
                        cases w with
                        | none => exact hw2.elim
                        | some v => exact ⟨hw2, f4⟩
                    have hg := IH _ ha ρ h ((Mf, pf, Lg, w.toList ++ Sg) :: rs) hx ht hw0 ⟨rfl, rfl, f3, hst, f5⟩ (by
                      cases r with
                      | nil => exact hb
                      | cons f r => exact hb) (by
                        have : r.length + 1 ≤ D := hlen
                        show r.length + 1 ≤ D + 1
                        omega) hrk
                    have hrl : rs.length = r.length := by
                      have : r.length + 1 = rs.length + 1 := hlr
                      omega
                    have hD : D - (rs.length + 1) + 1 = D - rs.length := by
                      have : r.length + 1 ≤ D := hlen
                      omega
                    show zwM (D - (rs.length + 1) + 1) Mf pf Lg (w.toList ++ Sg) h (fun rv' h' => zAft (yQ W post h0) (D - (rs.length + 1) + 1 + 1) rs rv' h')
                    rw [hD]
                    exact hg
            | false =>
              rw [hir] at ha
              dsimp only [cond] at ha
              split at ha
              · cases ha
              · rename_i l hst
                have hall : ∀ s ∈ l, anaH W D rk M0 m0 h0 (yQ W post h0) s := fun s hs => IH s (List.all_eq_true.mp ha s hs)
                have plain : aJ W (zo e) i x M pc A B r = some l → (∀ rec, zOne none rec (zo e) pc i L S h = zS none (zo e) pc i L S h) → zwM (D - rs.length) M pc L S h (fun rv h' => zAft (yQ W post h0) (D - rs.length + 1) rs rv h') := by
                  intro hj hone
                  obtain ⟨pc', L', S', h', x', A', B', ρ', g1, g2, g3, g4, g5, g6, g7, g8⟩ := gJ hx hL hS ht hj
                  have hg := hall _ g2 ρ' h' ((M, pc', L', S') :: rs) g4 g7 (hw0.tr g8) ⟨rfl, rfl, g5, g6, gFs_mono g3 hr⟩ (by
                    cases r with
                    | nil => exact hb
                    | cons f r => exact hb) (by show r.length + 1 ≤ D + 1; omega) (rkOk_mono g3 hrk)
                  exact zwM_one hM hf hir g1 hone hg
                unfold aStep at hst
                split at hst
                · rename_i k
                  split at hst
                  · rename_i pos hk
                    obtain ⟨S', h', x', B', g1, g2, g3, g4, g5, g6⟩ := gCopy hx hL hS ht hst
                    have hg := hall _ g2 ρ h' ((M, pc + 3, L, S') :: rs) g3 g5 (hw0.tr g6) ⟨rfl, rfl, hL, g4, hr⟩ (by
                      cases r with
                      | nil => exact hb
                      | cons f r => exact hb) (by show r.length + 1 ≤ D + 1; omega) hrk
                    obtain ⟨e', he', hw'⟩ := hg
                    cases hM.symm.trans he'
                    exact ⟨e, hM, zw_copy hf hk g1 hw'⟩
                  · rename_i hk
                    exact call_ok hT hM hf hir (vir := false) (k := k) (fun rec => by
                      unfold zOne
                      dsimp only
                      rw [hk]
                      rfl) hx ht hw0 hL hS hr hb hlen hrk hst hall
                · rename_i k
                  exact call_ok hT hM hf hir (vir := true) (k := k) (fun rec => rfl) hx ht hw0 hL hS hr hb hlen hrk hst hall
                · rename_i n1 n2
                  refine plain hst (fun rec => ?_)
                  unfold zOne
                  split
                  · exact absurd rfl (n1 _)
                  · exact absurd rfl (n2 _)
                  · rfl
end GP
theorem lOk_app : ∀ {P : List (Option aP)} {L : zLo} {P' : List (Option aP)} {L' : zLo}, lOkP P L → lOkP P' L' → lOkP (P ++ P') (L ++ L')
  | [], [], _, _, _, h2 => h2
  | [], _ :: _, _, _, hs, _ => hs.elim
  | none :: A, [], _, _, hs, _ => hs.elim
  | none :: A, _ :: L, _, _, hs, h2 => lOk_app (P := A) (L := L) hs h2
  | some a :: A, [], _, _, hs, _ => hs.elim
  | some a :: A, none :: L, _, _, hs, _ => hs.elim
  | some a :: A, some v :: L, _, _, hs, h2 => ⟨hs.1, lOk_app (P := A) (L := L) hs.2 h2⟩
theorem lOk_rep : ∀ n : Nat, lOkP (List.replicate n none) (List.replicate n none)
  | 0 => trivial
  | n + 1 => lOk_rep n
theorem lOk_len : ∀ {P : List (Option aP)} {L : zLo}, lOkP P L → P.length = L.length
  | [], [], _ => rfl
  | [], _ :: _, hs => hs.elim
  | none :: A, [], hs => hs.elim
  | none :: A, _ :: L, hs => by rw [List.length_cons, List.length_cons, lOk_len (P := A) (L := L) hs]
  | some a :: A, [], hs => hs.elim
  | some a :: A, none :: L, hs => hs.elim
  | some a :: A, some v :: L, hs => by rw [List.length_cons, List.length_cons, lOk_len (P := A) (L := L) hs.2]
theorem lOk_pre : ∀ {ps : List aP} {vs : List Value}, psOk ps vs → lOkP (aPre ps) (zSl vs)
  | [], [], _ => trivial
  | [], _ :: _, hs => hs.elim
  | _ :: _, [], hs => hs.elim
  | p :: ps, v :: vs, hs => by
    have ih := lOk_pre hs.2
    unfold aPre zSl at ih ⊢
    rw [List.flatMap_cons, List.flatMap_cons]
    refine lOk_app ?_ ih
    rcases p with ⟨l, lo, hi, nz⟩ | q
    · cases l with
      | false =>
        have hp := hs.1
        obtain ⟨u, rfl, hu⟩ := id hp
        exact ⟨hp, trivial⟩
      | true =>
        have hp := hs.1
        obtain ⟨u, rfl, hu⟩ := id hp
        exact ⟨hp, trivial⟩
    · have e : v = .ref q := hs.1
      subst e
      exact ⟨rfl, trivial⟩
theorem gX0 (h : zH) : gX [] aX0 h := ⟨⟨rfl, (fun i z e hz => by simp at hz)⟩, (fun e he => by cases he), fun q hq => by cases hq⟩
theorem zFind_all {α : Type} {k : Nat} {v : α} {l : List (Nat × α)} {f : Nat × α → Bool} (h : l.all f = true) (hz : zFind k l = some v) : f (k, v) = true := List.all_eq_true.mp h _ (zFind_mem hz)
/-- a summary that is checked is so -/
theorem aChk_ok {T : List (Nat × aY)} {inl : List Nat} {M : Nat} {y : aY} {hs : List (Nat × List aH)} {fuel : Nat} (hT : ∀ e ∈ T, yOk e.1 e.2) (h8 : (hs.all fun h => h.2.all fun v => Nat.ble v.2.2.1.length 8) = true) (ha : aChk T inl M y hs fuel = true) : yOk M y := by
  unfold aChk at ha
  cases hM : zP[M]? with
  | none => rw [hM] at ha; cases ha
  | some e =>
    rw [hM] at ha
    dsimp only at ha
    rw [Bool.and_eq_true] at ha
    obtain ⟨ha1, ha2⟩ := ha
    have hlen8 : ∀ pc invs, zFind pc hs = some invs → ∀ v ∈ invs, v.2.2.1.length ≤ 8 := fun pc invs hz v hv => Nat.le_of_ble_eq_true (List.all_eq_true.mp (zFind_all h8 hz) v hv)
    intro as h0 ht0 hps hm
    have hl := lOk_pre hps
    -- every head, by its measure
    have heads : ∀ (m : Nat) (pc : Nat) (invs : List aH) (v : aH) (L : zLo) (h : zH), zFind pc hs = some invs → v ∈ invs → lOkP v.1 L → mOk h v.2.1 → hTy h → hW y.2.2.2.1 h0 h → hMs v L h = m → zwM y.2.2.2.2 M pc L [] h (yQ y.2.2.2.1 y.2.2.1 h0) := by
      intro m
      induction m using Nat.strongRecOn with
      | ind m ih =>
        intro pc invs v L h hz hv hl hmo ht hw hms
        have hc := List.all_eq_true.mp (zFind_all ha2 hz) v hv
        dsimp only at hc
        split at hc
        · cases hc
        · rename_i rk hrk
          rw [Bool.and_eq_true] at hc
          obtain ⟨ρ1, p1, p2⟩ := aMkM_ok ht v.2.1 [] aX0 (gX0 h) hmo
          obtain ⟨ρ2, p3, p4, p5⟩ := aMkL_ok v.1 L ρ1 _ p2 hl
          have g3 := gRks p4 p5 v.2.2.1 rk hrk
          have hA := ana_ok (rk := some (v.2.2.2, rk)) (M0 := M) (m0 := m) (h0 := h0) hT hlen8 (fun pc' invs' v' L' h' z1 z2 z3 z4 z5 z6 z7 => ih (hMs v' L' h') (z7 (fun q => by cases q)) pc' invs' v' L' h' z1 z2 z3 z4 z5 z6 rfl) fuel true _ hc.2
          have hg := hA ρ2 h [(M, pc, L, [])] p4 ht hw ⟨rfl, rfl, p5, trivial, trivial⟩ rfl (by show 0 + 1 ≤ _; omega) ⟨zblt hc.1, _, g3, (fun a ha => by
            obtain ⟨k, -, rfl⟩ := List.mem_map.mp ha
            exact hVal_ok L h k), hms.symm⟩
          exact hg
    obtain ⟨ρ1, p1, p2⟩ := aMkM_ok ht0 y.2.1 [] aX0 (gX0 h0) hm
    have hn := lOk_len hl
    have hle : lOkP (aPre y.1 ++ List.replicate (zx e - (aPre y.1).length) none) (zEnt as (zx e)) := by
      show lOkP _ (zSl as ++ List.replicate (zx e - (zSl as).length) none)
      rw [hn]
      exact lOk_app hl (lOk_rep _)
    obtain ⟨ρ2, p3, p4, p5⟩ := aMkL_ok _ (zEnt as (zx e)) ρ1 _ p2 hle
    have hA := ana_ok (rk := none) (M0 := M) (m0 := 0) (h0 := h0) hT hlen8 (fun pc' invs' v' L' h' z1 z2 z3 z4 z5 z6 z7 => heads _ pc' invs' v' L' h' z1 z2 z3 z4 z5 z6 rfl) fuel false _ ha1
    have hg := hA ρ2 h0 [(M, 0, zEnt as (zx e), [])] p4 ht0 hW.rf ⟨rfl, rfl, p5, trivial, trivial⟩ rfl (by show 0 + 1 ≤ _; omega) trivial
    obtain ⟨e', he', hw'⟩ := hg
    cases hM.symm.trans he'
    exact zm_of hM hw'

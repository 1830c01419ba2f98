/-! calls of the pure machine, as rules; depth -/
theorem zRun_dep : ∀ (n d M pc : Nat) (L : zLo) (S : List Value) (h : zH) (out : Option Value × zH), zRun n d M pc L S h = some out → zRun n (d + 1) M pc L S h = some out
  | 0, d, M, pc, L, S, h, out, hz => by unfold zRun at hz; cases hz
  | n + 1, d, M, pc, L, S, h, out, hz => by
    unfold zRun at hz ⊢
    cases hM : zP[M]? with
    | none => rw [hM] at hz; cases hz
    | some x =>
      rw [hM] at hz
      dsimp only at hz ⊢
      cases hf : zFind pc (zk x) with
      | none => rw [hf] at hz; cases hz
      | some i =>
        rw [hf] at hz
        dsimp only at hz ⊢
        cases hr : zRet (zr x) i S with
        | some rv => rw [hr] at hz; exact hz
        | none =>
          rw [hr] at hz
          dsimp only at hz ⊢
          split at hz
          · cases hz
          · rename_i pc' L' S' h' ho
            rw [zOne_mono (fun M L h out hr => ?_) ho]
            · exact zRun_dep n d M pc' L' S' h' out hz
            · cases d with
              | zero => cases hr
              | succ d => exact zRun_dep n d M 0 L [] h out hr
theorem zm_le {d d' M : Nat} {as : List Value} {h : zH} {Q : Option Value → zH → Prop} (hd : d ≤ d') (hw : zm d M as h Q) : zm d' M as h Q := by
  obtain ⟨n, rv, h', h1, h2⟩ := hw
  refine ⟨n, rv, h', ?_, h2⟩
  cases hM : zP[M]? with
  | none => rw [hM] at h1; cases h1
  | some x =>
    rw [hM] at h1
    dsimp only at h1 ⊢
    obtain ⟨k, rfl⟩ := Nat.le.dest hd
    induction k with
    | zero => exact h1
    | succ k ih => exact zRun_dep _ _ _ _ _ _ _ _ (ih (Nat.le_add_right _ _))
section ZV
variable {E : zSc} {o : Nat} {K : List (Nat × Instr)} {ret : Option FieldType} {d pc : Nat} {L : zLo} {S : List Value} {h : zH} {Q : Option Value → zH → Prop}
theorem zw_call {i : Instr} {vir : Bool} {k M' : Nat} {e : zE} {st : Bool} {w : Nat × Nat × Nat} (hf : zFind pc K = some i) (hret : zRet ret i S = none) (hone : ∀ rec, zOne E rec o pc i L S h = match zCallK rec o vir k S h with
      | some r => some (pc + 3, L, r)
      | none => none)
    (hq : zFind k (zQT.getD o []) = some (M', st, w)) (hst : (st == vir) = false) (hM : zP[M']? = some e) (hc : ¬ (S.length < zn e + vir.toNat ∨ 8 < zCat (S.drop (zn e + vir.toNat)) ∨ (vir = true ∧ zRecv (zo e) (S.take (zn e + vir.toNat)).reverse = false) ∨ zx e < (zSl (S.take (zn e + vir.toNat))).length))
    (hw : zm d M' (S.take (zn e + vir.toNat)).reverse h (fun rv h' => zw E o K ret (d + 1) (pc + 3) L (rv.toList ++ S.drop (zn e + vir.toNat)) h' Q)) : zw E o K ret (d + 1) pc L S h Q := by
  obtain ⟨n1, rv, h1, g1, n2, rv2, h2, g2, g3⟩ := hw
  rw [hM] at g1
  dsimp only at g1
  refine ⟨max n1 n2 + 1, rv2, h2, ?_, g3⟩
  have e1 : zCallK (zSub (max n1 n2) (d + 1)) o vir k S h = some (rv.toList ++ S.drop (zn e + vir.toNat), h1) := by
    unfold zCallK
    rw [hq]
    dsimp only
    rw [hst]
    dsimp only [cond]
    rw [hM]
    dsimp only
    have hc2 := hc
    unfold zSl at hc2
    rw [if_neg hc2]
    rw [show zSub (max n1 n2) (d + 1) M' (zEnt (S.take (zn e + vir.toNat)).reverse (zx e)) h = some (rv, h1) from zRun_le (Nat.le_max_left _ _) g1]
  unfold zExec
  rw [hf]
  dsimp only
  rw [hret]
  dsimp only
  rw [hone, e1]
  exact zExec_le (Nat.le_max_right _ _) g2
theorem zw_copy {k pos : Nat} {r : List Value × zH} (hf : zFind pc K = some (.invokestatic k)) (ha : zFind k (zAT.getD o []) = some pos) (hc : zCopy S h = some r) (hw : zw E o K ret d (pc + 3) L r.1 r.2 Q) : zw E o K ret d pc L S h Q := by
  obtain ⟨n, rv, h', g1, g2⟩ := hw
  refine ⟨n + 1, rv, h', ?_, g2⟩
  unfold zExec
  rw [hf]
  show (match zOne E (zSub n d) o pc (.invokestatic k) L S h with
    | none => none
    | some (pc', L', S', h') => zExec E o K ret n d pc' L' S' h') = _
  unfold zOne
  dsimp only
  rw [ha]
  dsimp only
  rw [hc]
  exact g1
end ZV
/-! nested frames -/
abbrev zFr : Type := Nat × Nat × zLo × List Value
def zwM (d M pc : Nat) (L : zLo) (S : List Value) (h : zH) (Q : Option Value → zH → Prop) : Prop := ∃ x, zP[M]? = some x ∧ zw none (zo x) (zk x) (zr x) d pc L S h Q
def zAft (Q : Option Value → zH → Prop) : Nat → List zFr → Option Value → zH → Prop
  | _, [], rv, h => Q rv h
  | d, f :: fs, rv, h => zwM d f.1 f.2.1 f.2.2.1 (rv.toList ++ f.2.2.2) h (fun rv' h' => zAft Q (d + 1) fs rv' h')
def gFs (ρ : List Int) : List aF → List zFr → Prop
  | [], [] => True
  | f :: fs, g :: gs => f.1 = g.1 ∧ f.2.1 = g.2.1 ∧ gL ρ f.2.2.1 g.2.2.1 ∧ gS ρ f.2.2.2 g.2.2.2 ∧ gFs ρ fs gs
  | _, _ => False
theorem gFs_mono {ρ ρ' : List Int} (hp : gPre ρ ρ') : ∀ {fs : List aF} {gs : List zFr}, gFs ρ fs gs → gFs ρ' fs gs
  | [], [], _ => trivial
  | [], _ :: _, h => h.elim
  | f :: fs, [], h => h.elim
  | f :: fs, g :: gs, h => ⟨h.1, h.2.1, gL_mono hp h.2.2.1, gS_mono hp h.2.2.2.1, gFs_mono hp (fs := fs) (gs := gs) h.2.2.2.2⟩
theorem gFs_len {ρ : List Int} : ∀ {fs : List aF} {gs : List zFr}, gFs ρ fs gs → fs.length = gs.length
  | [], [], _ => rfl
  | [], _ :: _, h => h.elim
  | f :: fs, [], h => h.elim
  | f :: fs, g :: gs, h => by rw [List.length_cons, List.length_cons, gFs_len (fs := fs) (gs := gs) h.2.2.2.2]
/-! what is asked and what is answered -/
def pOk (p : aP) (v : Value) : Prop := match p with
  | .inl (false, lo, hi, nz) => ∃ u : Int32, v = .int u ∧ lo ≤ u.toInt ∧ u.toInt ≤ hi ∧ (nz = true → u.toInt ≠ 0)
  | .inl (true, lo, hi, nz) => ∃ u : Int64, v = .long u ∧ lo ≤ u.toInt ∧ u.toInt ≤ hi ∧ (nz = true → u.toInt ≠ 0)
  | .inr q => v = .ref q
def psOk : List aP → List Value → Prop
  | [], [] => True
  | p :: ps, v :: vs => pOk p v ∧ psOk ps vs
  | _, _ => False
def mOk (h : zH) (l : List (Nat × Nat × Int × Int)) : Prop := ∀ e ∈ l, e.2.2.1 ≤ (h.1 e.1 e.2.1).toInt ∧ (h.1 e.1 e.2.1).toInt ≤ e.2.2.2
def oOk (z : aO) (rv : Option Value) (h : zH) : Prop := (match z.1, rv with
  | none, none => True
  | some p, some v => pOk (.inl p) v
  | _, _ => False) ∧ mOk h z.2
def yQ (W : List (Nat × Nat × Nat)) (outs : List aO) (h0 : zH) (rv : Option Value) (h' : zH) : Prop := hTy h' ∧ hW W h0 h' ∧ ∃ z ∈ outs, oOk z rv h'
/-- a summary is so -/
def yOk (M : Nat) (y : aY) : Prop := ∀ (as : List Value) (h : zH), hTy h → psOk y.1 as → mOk h y.2.1 → zm y.2.2.2.2 M as h (yQ y.2.2.2.1 y.2.2.1 h)
section GY
variable {ρ : List Int} {x : aX} {h : zH}
theorem aIn_ok {v : aV} {p : aP} {w : Value} (hx : gX ρ x h) (hv : gV ρ v w) (ha : aIn x v p = true) : pOk p w := by
  unfold aIn at ha
  split at ha
  · rename_i l a l' lo hi nz
    simp only [Bool.and_eq_true, decide_eq_true_eq, beq_iff_eq, Bool.or_eq_true, Bool.not_eq_true'] at ha
    obtain ⟨⟨⟨⟨e1, e2⟩, e3⟩, e4⟩, e5⟩ := ha
    subst e1
    cases l with
    | false =>
      obtain ⟨u, rfl, hu⟩ := gV_i hv
      have bu := gBd hx hu
      refine ⟨u, rfl, by omega, by omega, fun hn => ?_⟩
      rcases e5 with e5 | e5
      · rw [e5] at hn; cases hn
      · exact gNz hx hu e5
    | true =>
      obtain ⟨u, rfl, hu⟩ := gV_l hv
      have bu := gBd hx hu
      refine ⟨u, rfl, by omega, by omega, fun hn => ?_⟩
      rcases e5 with e5 | e5
      · rw [e5] at hn; cases hn
      · exact gNz hx hu e5
  · rename_i q q'
    have e := Nat.eq_of_beq_eq_true ha
    subst e
    exact gV_r hv
  · cases ha
theorem aIns_ok (hx : gX ρ x h) : ∀ {vs : List aV} {ps : List aP} {ws : List Value}, gS ρ vs ws → aIns x vs ps = true → psOk ps ws
  | [], [], [], _, _ => trivial
  | [], [], _ :: _, hs, _ => hs.elim
  | [], p :: ps, ws, _, ha => by cases ha
  | v :: vs, [], ws, _, ha => by cases ha
  | v :: vs, p :: ps, [], hs, _ => hs.elim
  | v :: vs, p :: ps, w :: ws, hs, ha => by
    have ha : (aIn x v p && aIns x vs ps) = true := ha
    rw [Bool.and_eq_true] at ha
    exact ⟨aIn_ok hx hs.1 ha.1, aIns_ok hx hs.2 ha.2⟩
theorem aCell_ok {q s : Nat} {lo hi : Int} (hx : gX ρ x h) (ht : hTy h) (ha : aCell x q s lo hi = true) : lo ≤ (h.1 q s).toInt ∧ (h.1 q s).toInt ≤ hi := by
  unfold aCell at ha
  rw [Bool.or_eq_true] at ha
  rcases ha with ha | ha
  · simp only [Bool.and_eq_true, decide_eq_true_eq] at ha
    have := ht q s
    omega
  · obtain ⟨e, he, ha⟩ := List.any_eq_true.mp ha
    simp only [Bool.and_eq_true, decide_eq_true_eq] at ha
    obtain ⟨⟨⟨⟨e1, e2⟩, e3⟩, e4⟩, e5⟩ := ha
    have e1 := Nat.eq_of_beq_eq_true e1
    have hm := hx.2.1 e he
    unfold gMe at hm
    split at hm
    · rename_i s' hs
      rw [hs] at e2
      have e2 := Nat.eq_of_beq_eq_true e2
      rw [e1, e2] at hm
      have := gBd hx hm
      omega
    · rename_i j hj
      rw [hj] at e2
      simp only [Bool.and_eq_true, decide_eq_true_eq] at e2
      obtain ⟨u, g1, g2, g3⟩ := hm
      have b1 := gBd hx g1
      have eu : u.toNat = s := by omega
      rw [e1, eu] at g3
      have := gBd hx g3
      omega
theorem aCells_ok {l : List (Nat × Nat × Int × Int)} (hx : gX ρ x h) (ht : hTy h) (ha : aCells x l = true) : mOk h l := fun e he => aCell_ok hx ht (List.all_eq_true.mp ha e he)
theorem mk1 (hx : gX ρ x h) (ht : hTy h) {q s : Nat} {lo hi : Int} (hm : lo ≤ (h.1 q s).toInt ∧ (h.1 q s).toInt ≤ hi) : gX (ρ ++ [(h.1 q s).toInt]) (aNew x (max lo (tTy q s).1) (min hi (tTy q s).2) false 0 (0, 0) (0, 0)).1 h ∧ gI (ρ ++ [(h.1 q s).toInt]) (aNew x (max lo (tTy q s).1) (min hi (tTy q s).2) false 0 (0, 0) (0, 0)).2 (h.1 q s).toInt := by
  have := ht q s
  exact gNew0 (nz := false) hx (by omega) (by omega) (fun q => by cases q)
theorem aMkM_ok (ht : hTy h) : ∀ (l : List (Nat × Nat × Int × Int)) (ρ : List Int) (x : aX), gX ρ x h → mOk h l → ∃ ρ', gPre ρ ρ' ∧ gX ρ' (aMkM l x) h
  | [], ρ, x, hx, hm => ⟨ρ, gPre.rf, hx⟩
  | (q, s, lo, hi) :: r, ρ, x, hx, hm => by
    have h1 := hm _ List.mem_cons_self
    have hr : mOk h r := fun e he => hm e (List.mem_cons_of_mem _ he)
    unfold aMkM
    split
    · dsimp only
      obtain ⟨g1, g2⟩ := mk1 hx ht h1
      obtain ⟨ρ', p1, p2⟩ := aMkM_ok ht r _ _ (gPut (k := .inl s) g1 g2) hr
      exact ⟨ρ', gPre.one.tr p1, p2⟩
    · dsimp only
      obtain ⟨ρ1, c1, c2, c3⟩ := gConst (w := (s : Int)) hx
      obtain ⟨g1, g2⟩ := mk1 c2 ht h1
      obtain ⟨ρ', p1, p2⟩ := aMkM_ok ht r _ _ (gPut (q := q) (k := .inr (aConst x (s : Int)).2) g1 ⟨(s : Int), gI_mono gPre.one c3, by omega, g2⟩) hr
      exact ⟨ρ', (c1.tr gPre.one).tr p1, p2⟩
def lOkP : List (Option aP) → zLo → Prop
  | [], [] => True
  | none :: P, _ :: L => lOkP P L
  | some p :: P, some v :: L => pOk p v ∧ lOkP P L
  | _, _ => False
theorem aMkL_ok : ∀ (P : List (Option aP)) (L : zLo) (ρ : List Int) (x : aX), gX ρ x h → lOkP P L → ∃ ρ', gPre ρ ρ' ∧ gX ρ' (aMkL P x).1 h ∧ gL ρ' (aMkL P x).2 L
  | [], [], ρ, x, hx, _ => ⟨ρ, gPre.rf, hx, trivial⟩
  | [], _ :: _, ρ, x, hx, hl => hl.elim
  | none :: P, [], ρ, x, hx, hl => hl.elim
  | none :: P, _ :: L, ρ, x, hx, hl => by
    obtain ⟨ρ', p1, p2, p3⟩ := aMkL_ok P L ρ x hx hl
    exact ⟨ρ', p1, p2, p3⟩
  | some p :: P, [], ρ, x, hx, hl => hl.elim
  | some p :: P, none :: L, ρ, x, hx, hl => hl.elim
  | some (.inr r) :: P, some v :: L, ρ, x, hx, hl => by
    obtain ⟨ρ', p1, p2, p3⟩ := aMkL_ok P L ρ x hx hl.2
    have e : v = .ref r := hl.1
    subst e
    exact ⟨ρ', p1, p2, rfl, p3⟩
  | some (.inl (false, lo, hi, nz)) :: P, some v :: L, ρ, x, hx, hl => by
    obtain ⟨u, rfl, h1, h2, h3⟩ := hl.1
    obtain ⟨g1, g2⟩ := gNew0 (nz := nz) (a := (0, 0)) (b := (0, 0)) hx h1 h2 h3
    obtain ⟨ρ', p1, p2, p3⟩ := aMkL_ok P L _ _ g1 hl.2
    exact ⟨ρ', gPre.one.tr p1, p2, gI_mono p1 g2, p3⟩
  | some (.inl (true, lo, hi, nz)) :: P, some v :: L, ρ, x, hx, hl => by
    obtain ⟨u, rfl, h1, h2, h3⟩ := hl.1
    obtain ⟨g1, g2⟩ := gNew0 (nz := nz) (a := (0, 0)) (b := (0, 0)) hx h1 h2 h3
    obtain ⟨ρ', p1, p2, p3⟩ := aMkL_ok P L _ _ g1 hl.2
    exact ⟨ρ', gPre.one.tr p1, p2, gI_mono p1 g2, p3⟩
theorem aLoc_ok (hx : gX ρ x h) : ∀ {A : List (Option aV)} {P : List (Option aP)} {L : zLo}, gL ρ A L → aLoc x A P = true → lOkP P L
  | [], [], [], _, _ => trivial
  | [], [], _ :: _, hl, _ => hl.elim
  | [], none :: P, L, _, ha => by cases ha
  | [], some p :: P, L, _, ha => by cases ha
  | none :: A, [], L, _, ha => by cases ha
  | some v :: A, [], L, _, ha => by cases ha
  | none :: A, none :: P, [], hl, _ => hl.elim
  | none :: A, none :: P, w :: L, hl, ha => aLoc_ok hx (A := A) (P := P) (L := L) hl ha
  | none :: A, some p :: P, L, _, ha => by cases ha
  | some v :: A, none :: P, [], hl, _ => hl.elim
  | some v :: A, none :: P, none :: L, hl, _ => hl.elim
  | some v :: A, none :: P, some w :: L, hl, ha => aLoc_ok hx (A := A) (P := P) (L := L) hl.2 ha
  | some v :: A, some p :: P, [], hl, _ => hl.elim
  | some v :: A, some p :: P, none :: L, hl, _ => hl.elim
  | some v :: A, some p :: P, some w :: L, hl, ha => by
    have ha : (aIn x v p && aLoc x A P) = true := ha
    rw [Bool.and_eq_true] at ha
    exact ⟨aIn_ok hx hl.1 ha.1, aLoc_ok hx (A := A) (P := P) (L := L) hl.2 ha.2⟩
end GY

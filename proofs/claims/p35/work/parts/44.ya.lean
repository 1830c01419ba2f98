/-! the calls of the law: what each keeps -/
/-- a call ends, keeps the types, leaves these cells and these places as they were -/
def opB (qs : List Nat) (cs : List (Nat × Nat)) (D M r n : Nat) (lg : Bool) : Prop := ∀ (as : List Value), as.length = n → (∀ v ∈ as, ∃ u : Int32, v = .int u) → ∀ h, hTy h → zm D M (.ref r :: as) h (fun rv h' => hTy h' ∧ (∀ q ∈ qs, h'.1 q = h.1 q) ∧ (∀ c ∈ cs, h'.1 c.1 c.2 = h.1 c.1 c.2) ∧ (bif lg then (∃ u : Int64, rv = some (.long u)) else ∃ u : Int32, rv = some (.int u)))
def opFq (W : List (Nat × Nat × Nat)) (q : Nat) : Bool := W.all fun w => !(Nat.beq w.1 q)
theorem opFq_ok {W : List (Nat × Nat × Nat)} {q : Nat} {h h' : zH} (hf : opFq W q = true) (hw : hW W h h') : h'.1 q = h.1 q := by
  funext j
  refine hw q j (fun w hm z => ?_)
  have h1 := List.all_eq_true.mp hf w hm
  rw [z.1, Nat.beq_refl] at h1
  cases h1
def opFar (W : List (Nat × Nat × Nat)) (c : Nat × Nat) : Bool := W.all fun w => !(Nat.beq w.1 c.1 && Nat.ble w.2.1 c.2 && Nat.ble c.2 w.2.2)
theorem opFar_ok {W : List (Nat × Nat × Nat)} {c : Nat × Nat} {h h' : zH} (hf : opFar W c = true) (hw : hW W h h') : h'.1 c.1 c.2 = h.1 c.1 c.2 := by
  refine hw c.1 c.2 (fun w hm z => ?_)
  have h1 := List.all_eq_true.mp hf w hm
  obtain ⟨z1, z2, z3⟩ := z
  have e1 : Nat.beq w.1 c.1 = true := by rw [z1]; exact Nat.beq_refl _
  have e2 : Nat.ble w.2.1 c.2 = true := Nat.ble_eq_true_of_le z2
  have e3 : Nat.ble c.2 w.2.2 = true := Nat.ble_eq_true_of_le z3
  rw [e1, e2, e3] at h1
  cases h1
def opOut (lg : Bool) (z : aO) : Bool := match z.1 with
  | some (l, _) => l == lg
  | none => false
theorem opOut_ok {lg : Bool} {z : aO} {rv : Option Value} {h : zH} (hc : opOut lg z = true) (ho : oOk z rv h) : bif lg then (∃ u : Int64, rv = some (.long u)) else ∃ u : Int32, rv = some (.int u) := by
  obtain ⟨zp, zm⟩ := z
  obtain ⟨ho, -⟩ := ho
  unfold opOut at hc
  dsimp only at hc ho
  cases zp with
  | none => cases hc
  | some p =>
    obtain ⟨l, lo, hi, nz⟩ := p
    have hl : l = lg := by simpa using hc
    subst hl
    cases rv with
    | none => exact ho.elim
    | some v =>
      cases l with
      | true =>
        obtain ⟨u, rfl, -⟩ := ho
        exact ⟨u, rfl⟩
      | false =>
        obtain ⟨u, rfl, -⟩ := ho
        exact ⟨u, rfl⟩
def opC (qs : List Nat) (cs : List (Nat × Nat)) (D : Nat) (lg : Bool) (y : aY) : Bool := Nat.ble y.2.2.2.2 D && qs.all (opFq y.2.2.2.1) && cs.all (opFar y.2.2.2.1) && y.2.2.1.all (opOut lg)
theorem opC_ok {qs : List Nat} {cs : List (Nat × Nat)} {D M : Nat} {lg : Bool} {y : aY} (hy : yOk M y) (hc : opC qs cs D lg y = true) {as : List Value} {h : zH} (ht : hTy h) (hp : psOk y.1 as) (hm : mOk h y.2.1) : zm D M as h (fun rv h' => hTy h' ∧ (∀ q ∈ qs, h'.1 q = h.1 q) ∧ (∀ c ∈ cs, h'.1 c.1 c.2 = h.1 c.1 c.2) ∧ (bif lg then (∃ u : Int64, rv = some (.long u)) else ∃ u : Int32, rv = some (.int u))) := by
  unfold opC at hc
  simp only [Bool.and_eq_true] at hc
  obtain ⟨⟨⟨c1, c0⟩, c2⟩, c3⟩ := hc
  refine zm_le (Nat.le_of_ble_eq_true c1) (zm_imp (hy as h ht hp hm) (fun rv h' hq => ?_))
  obtain ⟨q1, q2, z, hz, q3⟩ := hq
  exact ⟨q1, fun q hqm => opFq_ok (List.all_eq_true.mp c0 q hqm) q2, fun c hcm => opFar_ok (List.all_eq_true.mp c2 c hcm) q2, opOut_ok (List.all_eq_true.mp c3 z hz) q3⟩
abbrev opI : aP := .inl (false, iMin, iMax, false)
theorem ps_int (u : Int32) : pOk opI (.int u) := ⟨u, rfl, (rOk_i.mp (rIn_i u)).1, (rOk_i.mp (rIn_i u)).2, fun q => by cases q⟩
theorem ps_ints : ∀ (n : Nat) (as : List Value), as.length = n → (∀ v ∈ as, ∃ u : Int32, v = .int u) → psOk (List.replicate n opI) as
  | 0, [], _, _ => trivial
  | 0, _ :: _, h, _ => by cases h
  | n + 1, [], h, _ => by cases h
  | n + 1, v :: as, h, hv => by
    obtain ⟨u, rfl⟩ := hv v List.mem_cons_self
    exact ⟨ps_int u, ps_ints n as (Nat.succ.inj h) (fun w hw => hv w (List.mem_cons_of_mem _ hw))⟩
theorem opA_one {qs : List Nat} {cs : List (Nat × Nat)} {D M r n : Nat} {lg : Bool} {y : aY} (hy : yOk M y) (hc : (opC qs cs D lg y && decide (y.1 = .inr r :: List.replicate n opI) && decide (y.2.1 = [])) = true) : opB qs cs D M r n lg := by
  simp only [Bool.and_eq_true, decide_eq_true_eq] at hc
  obtain ⟨⟨c1, c2⟩, c3⟩ := hc
  intro as hl hv h ht
  refine opC_ok hy c1 ht ?_ ?_
  · rw [c2]
    exact ⟨rfl, ps_ints n as hl hv⟩
  · rw [c3]
    intro e he
    cases he
theorem hF0 {M : Nat} : ∀ y ∈ ([] : List aY), yOk M y := fun y hy => by cases hy
theorem hFc {M : Nat} {y : aY} {F : List aY} (h : yOk M y) (hF : ∀ y ∈ F, yOk M y) : ∀ y' ∈ (y :: F), yOk M y' := List.forall_mem_cons.mpr ⟨h, hF⟩
def opCov (F : List aY) (r n : Nat) : Prop := ∀ (as : List Value), as.length = n → (∀ v ∈ as, ∃ u : Int32, v = .int u) → ∀ h, hTy h → ∃ y ∈ F, psOk y.1 (.ref r :: as) ∧ mOk h y.2.1
theorem opA_fam {qs : List Nat} {cs : List (Nat × Nat)} {D M r n : Nat} {lg : Bool} {F : List aY} (hF : ∀ y ∈ F, yOk M y) (hc : F.all (opC qs cs D lg) = true) (hcov : opCov F r n) : opB qs cs D M r n lg := by
  intro as hl hv h ht
  obtain ⟨y, hy, hp, hm⟩ := hcov as hl hv h ht
  exact opC_ok (hF y hy) (List.all_eq_true.mp hc y hy) ht hp hm
/-- an instance for each length of a part that is copied, one for each side outside -/
def covLC (F : List aY) (r : Nat) : Bool := ((List.range 41).all fun m => F.any fun y => decide (y.1 = [.inr r, opI, opI, opI, opI, .inl (false, (m : Int), (m : Int), false)]) && decide (y.2.1 = [])) && (F.any fun y => decide (y.1 = [.inr r, opI, opI, opI, opI, .inl (false, iMin, -1, false)]) && decide (y.2.1 = [])) && (F.any fun y => decide (y.1 = [.inr r, opI, opI, opI, opI, .inl (false, 41, iMax, false)]) && decide (y.2.1 = []))
theorem covL {F : List aY} {r : Nat} (hc : covLC F r = true) : opCov F r 5 := by
  unfold covLC at hc
  simp only [Bool.and_eq_true] at hc
  obtain ⟨⟨c1, c2⟩, c3⟩ := hc
  intro as hl hv h ht
  match as, hl, hv with
  | [v1, v2, v3, v4, v5], _, hv =>
    obtain ⟨u1, rfl⟩ := hv v1 (by simp)
    obtain ⟨u2, rfl⟩ := hv v2 (by simp)
    obtain ⟨u3, rfl⟩ := hv v3 (by simp)
    obtain ⟨u4, rfl⟩ := hv v4 (by simp)
    obtain ⟨u5, rfl⟩ := hv v5 (by simp)
    have key : ∀ lo hi : Int, lo ≤ u5.toInt → u5.toInt ≤ hi → (F.any fun y => decide (y.1 = [.inr r, opI, opI, opI, opI, .inl (false, lo, hi, false)]) && decide (y.2.1 = [])) = true → ∃ y ∈ F, psOk y.1 [.ref r, .int u1, .int u2, .int u3, .int u4, .int u5] ∧ mOk h y.2.1 := by
      intro lo hi h1 h2 ha
      obtain ⟨y, hy, hd⟩ := List.any_eq_true.mp ha
      simp only [Bool.and_eq_true, decide_eq_true_eq] at hd
      refine ⟨y, hy, ?_, ?_⟩
      · rw [hd.1]
        exact ⟨rfl, ps_int u1, ps_int u2, ps_int u3, ps_int u4, ⟨u5, rfl, h1, h2, fun q => by cases q⟩, trivial⟩
      · rw [hd.2]
        intro e he
        cases he
    have b := rOk_i.mp (rIn_i u5)
    by_cases h1 : u5.toInt < 0
    · exact key iMin (-1) b.1 (by omega) c2
    · by_cases h2 : u5.toInt ≤ 40
      · have hm := List.all_eq_true.mp c1 u5.toInt.toNat (List.mem_range.mpr (by omega))
        exact key _ _ (by omega) (by omega) hm
      · exact key 41 iMax (by omega) b.2 c3
/-- an instance for each number of men -/
def covMC (F : List aY) (r n : Nat) : Bool := ((List.range 5).all fun m => F.any fun y => decide (y.1 = .inr r :: List.replicate n opI) && decide (y.2.1 = [(64, 57, (m : Int), (m : Int))])) && decide ((tTy 64 57).1 = 0) && decide ((tTy 64 57).2 = 4)
theorem covM {F : List aY} {r n : Nat} (hc : covMC F r n = true) : opCov F r n := by
  unfold covMC at hc
  simp only [Bool.and_eq_true, decide_eq_true_eq] at hc
  obtain ⟨⟨c1, c2⟩, c3⟩ := hc
  intro as hl hv h ht
  have t := ht 64 57
  rw [c2, c3] at t
  have hm := List.all_eq_true.mp c1 (h.1 64 57).toInt.toNat (List.mem_range.mpr (by omega))
  obtain ⟨y, hy, hd⟩ := List.any_eq_true.mp hm
  simp only [Bool.and_eq_true, decide_eq_true_eq] at hd
  refine ⟨y, hy, ?_, ?_⟩
  · rw [hd.1]
    exact ⟨rfl, ps_ints n as hl hv⟩
  · rw [hd.2]
    intro e he
    rw [List.mem_singleton.mp he]
    exact ⟨by show (((h.1 64 57).toInt.toNat : Nat) : Int) ≤ (h.1 64 57).toInt; omega, by show (h.1 64 57).toInt ≤ (((h.1 64 57).toInt.toNat : Nat) : Int); omega⟩
/-! the branches of the law -/
theorem lSp_weak {J : zH → Prop} {d p n ka MA kb MB : Nat} {off : Int} (hs : lSp J d (p, n, ka, MA, kb, MB, 2, off)) : lSp J d (p, n, ka, MA, kb, MB, 0, off) := by
  intro as hl hv h hJ
  refine zm_imp (hs as hl hv h hJ) (fun rv h1 hq => ⟨hq.1, zm_imp hq.2 (fun rv' h2 hr => ⟨hr.1, ?_⟩)⟩)
  obtain ⟨a, -, ha⟩ := hr.2
  exact ⟨a, ha⟩
/-- both answer alike, and stay tied -/
theorem lSp_eq {J : zH → Prop} {p n ka MA kb MB : Nat} {off : Int} (ha : opB [] [] 16 MA 0 n false) (hb : opB [] [] 16 MB 58 n false) (hp : pr2 MA MB n J) : lSp (fun h => hTy h ∧ J h) 16 (p, n, ka, MA, kb, MB, 2, off) := by
  intro as hl hv h hJ
  refine zm_imp (zm_q (ha as hl hv h hJ.1) (hp as hl hv h hJ.1 hJ.2)) (fun rv h1 hq => ?_)
  obtain ⟨⟨q1, -, -, q3⟩, q4⟩ := hq
  refine ⟨q3, zm_imp (zm_q (hb as hl hv h1 q1) (q4 q1)) (fun rv' h2 hr => ?_)⟩
  obtain ⟨⟨r1, -, -, r3⟩, r4⟩ := hr
  obtain ⟨e, hJ2⟩ := r4 r1
  obtain ⟨u, rfl⟩ := q3
  exact ⟨⟨r1, hJ2⟩, u, rfl, e⟩
/-- what ties them is left alone -/
theorem lSp_fi {J : zH → Prop} {qs : List Nat} {cs : List (Nat × Nat)} {p n ka MA kb MB : Nat} {off : Int} (hJf : ∀ h h', (∀ q ∈ qs, h'.1 q = h.1 q) → (∀ c ∈ cs, h'.1 c.1 c.2 = h.1 c.1 c.2) → J h → J h') (ha : opB qs cs 16 MA 0 n false) (hb : opB qs cs 16 MB 58 n false) : lSp (fun h => hTy h ∧ J h) 16 (p, n, ka, MA, kb, MB, 0, off) := by
  intro as hl hv h hJ
  refine zm_imp (ha as hl hv h hJ.1) (fun rv h1 hq => ?_)
  obtain ⟨q1, q2, q2', q3⟩ := hq
  refine ⟨q3, zm_imp (hb as hl hv h1 q1) (fun rv' h2 hr => ?_)⟩
  obtain ⟨r1, r2, r2', r3⟩ := hr
  exact ⟨⟨r1, hJf h1 h2 r2 r2' (hJf h h1 q2 q2' hJ.2)⟩, r3⟩
theorem lSp_fl {J : zH → Prop} {qs : List Nat} {cs : List (Nat × Nat)} {p n ka MA kb MB : Nat} {off : Int} (hJf : ∀ h h', (∀ q ∈ qs, h'.1 q = h.1 q) → (∀ c ∈ cs, h'.1 c.1 c.2 = h.1 c.1 c.2) → J h → J h') (ha : opB qs cs 16 MA 0 n true) (hb : opB qs cs 16 MB 58 n true) : lSp (fun h => hTy h ∧ J h) 16 (p, n, ka, MA, kb, MB, 1, off) := by
  intro as hl hv h hJ
  refine zm_imp (ha as hl hv h hJ.1) (fun rv h1 hq => ?_)
  obtain ⟨q1, q2, q2', q3⟩ := hq
  refine ⟨q3, zm_imp (hb as hl hv h1 q1) (fun rv' h2 hr => ?_)⟩
  obtain ⟨r1, r2, r2', r3⟩ := hr
  exact ⟨⟨r1, hJf h1 h2 r2 r2' (hJf h h1 q2 q2' hJ.2)⟩, r3⟩

/-! the calls of the law: what each keeps -/
abbrev opCs : List (Nat × Nat) := [(13, 1), (58, 5)]
/-- the two are in step: as many letters told on both sides -/
def lJ (h : zH) : Prop := hTy h ∧ h.1 13 1 = h.1 58 5
def opA (cs : List (Nat × Nat)) (D M r n : Nat) (lg : Bool) : Prop := ∀ (as : List Value), as.length = n → (∀ v ∈ as, ∃ u : Int32, v = .int u) → ∀ h, hTy h → zm D M (.ref r :: as) h (fun rv h' => hTy h' ∧ (∀ c ∈ cs, h'.1 c.1 c.2 = h.1 c.1 c.2) ∧ (bif lg then (∃ u : Int64, rv = some (.long u)) else ∃ u : Int32, rv = some (.int u)))
def opFar (W : List (Nat × Nat × Nat)) (c : Nat × Nat) : Bool := W.all fun w => !(Nat.beq w.1 c.1 && Nat.ble w.2.1 c.2 && Nat.ble c.2 w.2.2)
theorem opFar_ok {W : List (Nat × Nat × Nat)} {c : Nat × Nat} {h h' : zH} (hf : opFar W c = true) (hw : hW W h h') : h'.1 c.1 c.2 = h.1 c.1 c.2 := by
  refine hw c.1 c.2 (fun w hm z => ?_)
  have h1 := List.all_eq_true.mp hf w hm
  obtain ⟨z1, z2, z3⟩ := z
  have e1 : Nat.beq w.1 c.1 = true := by rw [z1]; exact Nat.beq_refl _
  have e2 : Nat.ble w.2.1 c.2 = true := Nat.ble_eq_true_of_le z2
  have e3 : Nat.ble c.2 w.2.2 = true := Nat.ble_eq_true_of_le z3
  rw [e1, e2, e3] at h1
  cases h1
def opOut (lg : Bool) (z : aO) : Bool := match z.1 with
  | some (l, _) => l == lg
  | none => false
theorem opOut_ok {lg : Bool} {z : aO} {rv : Option Value} {h : zH} (hc : opOut lg z = true) (ho : oOk z rv h) : bif lg then (∃ u : Int64, rv = some (.long u)) else ∃ u : Int32, rv = some (.int u) := by
  obtain ⟨zp, zm⟩ := z
  obtain ⟨ho, -⟩ := ho
  unfold opOut at hc
  dsimp only at hc ho
  cases zp with
  | none => cases hc
  | some p =>
    obtain ⟨l, lo, hi, nz⟩ := p
    have hl : l = lg := by simpa using hc
    subst hl
    cases rv with
    | none => exact ho.elim
    | some v =>
      cases l with
      | true =>
        obtain ⟨u, rfl, -⟩ := ho
        exact ⟨u, rfl⟩
      | false =>
        obtain ⟨u, rfl, -⟩ := ho
        exact ⟨u, rfl⟩
def opC (cs : List (Nat × Nat)) (D : Nat) (lg : Bool) (y : aY) : Bool := Nat.ble y.2.2.2.2 D && cs.all (opFar y.2.2.2.1) && y.2.2.1.all (opOut lg)
theorem opC_ok {cs : List (Nat × Nat)} {D M : Nat} {lg : Bool} {y : aY} (hy : yOk M y) (hc : opC cs D lg y = true) {as : List Value} {h : zH} (ht : hTy h) (hp : psOk y.1 as) (hm : mOk h y.2.1) : zm D M as h (fun rv h' => hTy h' ∧ (∀ c ∈ cs, h'.1 c.1 c.2 = h.1 c.1 c.2) ∧ (bif lg then (∃ u : Int64, rv = some (.long u)) else ∃ u : Int32, rv = some (.int u))) := by
  unfold opC at hc
  simp only [Bool.and_eq_true] at hc
  obtain ⟨⟨c1, c2⟩, c3⟩ := hc
  refine zm_le (Nat.le_of_ble_eq_true c1) (zm_imp (hy as h ht hp hm) (fun rv h' hq => ?_))
  obtain ⟨q1, q2, z, hz, q3⟩ := hq
  exact ⟨q1, fun c hcm => opFar_ok (List.all_eq_true.mp c2 c hcm) q2, opOut_ok (List.all_eq_true.mp c3 z hz) q3⟩
abbrev opI : aP := .inl (false, iMin, iMax, false)
theorem ps_int (u : Int32) : pOk opI (.int u) := ⟨u, rfl, (rOk_i.mp (rIn_i u)).1, (rOk_i.mp (rIn_i u)).2, fun q => by cases q⟩
theorem ps_ints : ∀ (n : Nat) (as : List Value), as.length = n → (∀ v ∈ as, ∃ u : Int32, v = .int u) → psOk (List.replicate n opI) as
  | 0, [], _, _ => trivial
  | 0, _ :: _, h, _ => by cases h
  | n + 1, [], h, _ => by cases h
  | n + 1, v :: as, h, hv => by
    obtain ⟨u, rfl⟩ := hv v List.mem_cons_self
    exact ⟨ps_int u, ps_ints n as (Nat.succ.inj h) (fun w hw => hv w (List.mem_cons_of_mem _ hw))⟩
theorem opA_one {cs : List (Nat × Nat)} {D M r n : Nat} {lg : Bool} {y : aY} (hy : yOk M y) (hc : (opC cs D lg y && decide (y.1 = .inr r :: List.replicate n opI) && decide (y.2.1 = [])) = true) : opA cs D M r n lg := by
  simp only [Bool.and_eq_true, decide_eq_true_eq] at hc
  obtain ⟨⟨c1, c2⟩, c3⟩ := hc
  intro as hl hv h ht
  refine opC_ok hy c1 ht ?_ ?_
  · rw [c2]
    exact ⟨rfl, ps_ints n as hl hv⟩
  · rw [c3]
    intro e he
    cases he
theorem hF0 {M : Nat} : ∀ y ∈ ([] : List aY), yOk M y := fun y hy => by cases hy
theorem hFc {M : Nat} {y : aY} {F : List aY} (h : yOk M y) (hF : ∀ y ∈ F, yOk M y) : ∀ y' ∈ (y :: F), yOk M y' := List.forall_mem_cons.mpr ⟨h, hF⟩
def opCov (F : List aY) (r n : Nat) : Prop := ∀ (as : List Value), as.length = n → (∀ v ∈ as, ∃ u : Int32, v = .int u) → ∀ h, hTy h → ∃ y ∈ F, psOk y.1 (.ref r :: as) ∧ mOk h y.2.1
theorem opA_fam {cs : List (Nat × Nat)} {D M r n : Nat} {lg : Bool} {F : List aY} (hF : ∀ y ∈ F, yOk M y) (hc : F.all (opC cs D lg) = true) (hcov : opCov F r n) : opA cs D M r n lg := by
  intro as hl hv h ht
  obtain ⟨y, hy, hp, hm⟩ := hcov as hl hv h ht
  exact opC_ok (hF y hy) (List.all_eq_true.mp hc y hy) ht hp hm
/-- an instance for each length of a part that is copied, one for each side outside -/
def covLC (F : List aY) (r : Nat) : Bool := ((List.range 41).all fun m => F.any fun y => decide (y.1 = [.inr r, opI, opI, opI, opI, .inl (false, (m : Int), (m : Int), false)]) && decide (y.2.1 = [])) && (F.any fun y => decide (y.1 = [.inr r, opI, opI, opI, opI, .inl (false, iMin, -1, false)]) && decide (y.2.1 = [])) && (F.any fun y => decide (y.1 = [.inr r, opI, opI, opI, opI, .inl (false, 41, iMax, false)]) && decide (y.2.1 = []))
theorem covL {F : List aY} {r : Nat} (hc : covLC F r = true) : opCov F r 5 := by
  unfold covLC at hc
  simp only [Bool.and_eq_true] at hc
  obtain ⟨⟨c1, c2⟩, c3⟩ := hc
  intro as hl hv h ht
  match as, hl, hv with
  | [v1, v2, v3, v4, v5], _, hv =>
    obtain ⟨u1, rfl⟩ := hv v1 (by simp)
    obtain ⟨u2, rfl⟩ := hv v2 (by simp)
    obtain ⟨u3, rfl⟩ := hv v3 (by simp)
    obtain ⟨u4, rfl⟩ := hv v4 (by simp)
    obtain ⟨u5, rfl⟩ := hv v5 (by simp)
    have key : ∀ lo hi : Int, lo ≤ u5.toInt → u5.toInt ≤ hi → (F.any fun y => decide (y.1 = [.inr r, opI, opI, opI, opI, .inl (false, lo, hi, false)]) && decide (y.2.1 = [])) = true → ∃ y ∈ F, psOk y.1 [.ref r, .int u1, .int u2, .int u3, .int u4, .int u5] ∧ mOk h y.2.1 := by
      intro lo hi h1 h2 ha
      obtain ⟨y, hy, hd⟩ := List.any_eq_true.mp ha
      simp only [Bool.and_eq_true, decide_eq_true_eq] at hd
      refine ⟨y, hy, ?_, ?_⟩
      · rw [hd.1]
        exact ⟨rfl, ps_int u1, ps_int u2, ps_int u3, ps_int u4, ⟨u5, rfl, h1, h2, fun q => by cases q⟩, trivial⟩
      · rw [hd.2]
        intro e he
        cases he
    have b := rOk_i.mp (rIn_i u5)
    by_cases h1 : u5.toInt < 0
    · exact key iMin (-1) b.1 (by omega) c2
    · by_cases h2 : u5.toInt ≤ 40
      · have hm := List.all_eq_true.mp c1 u5.toInt.toNat (List.mem_range.mpr (by omega))
        exact key _ _ (by omega) (by omega) hm
      · exact key 41 iMax (by omega) b.2 c3
/-- an instance for each number of men -/
def covMC (F : List aY) (r n : Nat) : Bool := ((List.range 5).all fun m => F.any fun y => decide (y.1 = .inr r :: List.replicate n opI) && decide (y.2.1 = [(64, 57, (m : Int), (m : Int))])) && decide ((tTy 64 57).1 = 0) && decide ((tTy 64 57).2 = 4)
theorem covM {F : List aY} {r n : Nat} (hc : covMC F r n = true) : opCov F r n := by
  unfold covMC at hc
  simp only [Bool.and_eq_true, decide_eq_true_eq] at hc
  obtain ⟨⟨c1, c2⟩, c3⟩ := hc
  intro as hl hv h ht
  have t := ht 64 57
  rw [c2, c3] at t
  have hm := List.all_eq_true.mp c1 (h.1 64 57).toInt.toNat (List.mem_range.mpr (by omega))
  obtain ⟨y, hy, hd⟩ := List.any_eq_true.mp hm
  simp only [Bool.and_eq_true, decide_eq_true_eq] at hd
  refine ⟨y, hy, ?_, ?_⟩
  · rw [hd.1]
    exact ⟨rfl, ps_ints n as hl hv⟩
  · rw [hd.2]
    intro e he
    rw [List.mem_singleton.mp he]
    exact ⟨by show (((h.1 64 57).toInt.toNat : Nat) : Int) ≤ (h.1 64 57).toInt; omega, by show (h.1 64 57).toInt ≤ (((h.1 64 57).toInt.toNat : Nat) : Int); omega⟩
/-! the branches of the law -/
theorem lSp_int {p n ka MA kb MB : Nat} {off : Int} (ha : opA opCs 16 MA 0 n false) (hb : opA opCs 16 MB 58 n false) : lSp lJ 16 (p, n, ka, MA, kb, MB, 0, off) := by
  intro as hl hv h hJ
  refine zm_imp (ha as hl hv h hJ.1) (fun rv h1 hq => ?_)
  obtain ⟨q1, q2, q3⟩ := hq
  refine ⟨q3, zm_imp (hb as hl hv h1 q1) (fun rv' h2 hr => ?_)⟩
  obtain ⟨r1, r2, r3⟩ := hr
  refine ⟨⟨r1, ?_⟩, r3⟩
  have a1 := q2 (13, 1) (by decide)
  have a2 := q2 (58, 5) (by decide)
  have b1 := r2 (13, 1) (by decide)
  have b2 := r2 (58, 5) (by decide)
  exact b1.trans (a1.trans (hJ.2.trans (a2.symm.trans b2.symm)))
theorem lSp_lng {p n ka MA kb MB : Nat} {off : Int} (ha : opA opCs 16 MA 0 n true) (hb : opA opCs 16 MB 58 n true) : lSp lJ 16 (p, n, ka, MA, kb, MB, 1, off) := by
  intro as hl hv h hJ
  refine zm_imp (ha as hl hv h hJ.1) (fun rv h1 hq => ?_)
  obtain ⟨q1, q2, q3⟩ := hq
  refine ⟨q3, zm_imp (hb as hl hv h1 q1) (fun rv' h2 hr => ?_)⟩
  obtain ⟨r1, r2, r3⟩ := hr
  refine ⟨⟨r1, ?_⟩, r3⟩
  have a1 := q2 (13, 1) (by decide)
  have a2 := q2 (58, 5) (by decide)
  have b1 := r2 (13, 1) (by decide)
  have b2 := r2 (58, 5) (by decide)
  exact b1.trans (a1.trans (hJ.2.trans (a2.symm.trans b2.symm)))
theorem i32_of {x : Int32} {n : Int} (h1 : n ≤ x.toInt) (h2 : x.toInt ≤ n) : x.toInt = n := by omega
/-- a call without numbers that leaves a place at 0 -/
theorem op_set {M r q s D : Nat} {c : Nat × Nat} {y : aY} (hy : yOk M y) (hc : (Nat.ble y.2.2.2.2 D && decide (y.1 = [.inr r]) && decide (y.2.1 = []) && opFar y.2.2.2.1 c && (y.2.2.1.all fun z => opOut false z && decide (z.2 = [(q, s, 0, 0)]))) = true) {h : zH} (ht : hTy h) : zm D M [.ref r] h (fun rv h' => hTy h' ∧ h'.1 c.1 c.2 = h.1 c.1 c.2 ∧ (h'.1 q s).toInt = 0 ∧ ∃ u : Int32, rv = some (.int u)) := by
  simp only [Bool.and_eq_true, decide_eq_true_eq] at hc
  obtain ⟨⟨⟨⟨c1, c2⟩, c3⟩, c4⟩, c5⟩ := hc
  refine zm_le (Nat.le_of_ble_eq_true c1) (zm_imp (hy [.ref r] h ht (by rw [c2]; exact ⟨rfl, trivial⟩) (by rw [c3]; intro e he; cases he)) (fun rv h' hq => ?_))
  obtain ⟨q1, q2, z, hz, q3⟩ := hq
  have c6 := List.all_eq_true.mp c5 z hz
  simp only [Bool.and_eq_true, decide_eq_true_eq] at c6
  have q4 := q3.2
  rw [c6.2] at q4
  have q5 := q4 (q, s, 0, 0) List.mem_cons_self
  exact ⟨q1, opFar_ok c4 q2, i32_of q5.1 q5.2, opOut_ok (lg := false) c6.1 q3⟩
theorem lSp_cty {p ka MA kb MB : Nat} {off : Int} {ya yb : aY} (ha : yOk MA ya) (hb : yOk MB yb) (ca : (Nat.ble ya.2.2.2.2 16 && decide (ya.1 = [.inr 0]) && decide (ya.2.1 = []) && opFar ya.2.2.2.1 (58, 5) && (ya.2.2.1.all fun z => opOut false z && decide (z.2 = [(13, 1, 0, 0)]))) = true) (cb : (Nat.ble yb.2.2.2.2 16 && decide (yb.1 = [.inr 58]) && decide (yb.2.1 = []) && opFar yb.2.2.2.1 (13, 1) && (yb.2.2.1.all fun z => opOut false z && decide (z.2 = [(58, 5, 0, 0)]))) = true) : lSp lJ 16 (p, 0, ka, MA, kb, MB, 0, off) := by
  intro as hl hv h hJ
  have e : as = [] := List.eq_nil_of_length_eq_zero hl
  subst e
  refine zm_imp (op_set (c := (58, 5)) ha ca hJ.1) (fun rv h1 hq => ?_)
  obtain ⟨q1, -, q2, q3⟩ := hq
  refine ⟨q3, zm_imp (op_set (c := (13, 1)) hb cb q1) (fun rv' h2 hr => ?_)⟩
  obtain ⟨r1, r2, r3, r4⟩ := hr
  refine ⟨⟨r1, ?_⟩, r4⟩
  have r2 : h2.1 13 1 = h1.1 13 1 := r2
  apply Int32.toInt_inj.mp
  rw [r2, q2, r3]
/-- feed: the two answers are the same, and the two stay in step -/
theorem fd_one {M q c s t : Nat} {r : Int × Int} {m : Nat} (hy : yOk M (fdY q c s t r m)) {k : Nat × Nat} (hk : opFar [(c, s, s), (t, 0, 120)] k = true) {u : Int32} {h : zH} (ht : hTy h) (h1 : r.1 ≤ u.toInt) (h2 : u.toInt ≤ r.2) (hm : (h.1 c s).toInt = (m : Int)) : zm 16 M [.ref q, .int u] h (fun rv h' => hTy h' ∧ h'.1 k.1 k.2 = h.1 k.1 k.2 ∧ (h'.1 c s).toInt = fdN r.1 m ∧ ∃ a : Int32, rv = some (.int a) ∧ a.toInt = fdA r.1 m) := by
  refine zm_le (show 1 ≤ 16 by omega) (zm_imp (hy [.ref q, .int u] h ht ⟨rfl, ⟨u, rfl, h1, h2, fun q => by cases q⟩, trivial⟩ (fun e he => by rw [List.mem_singleton.mp he]; exact ⟨by show (m : Int) ≤ (h.1 c s).toInt; omega, by show (h.1 c s).toInt ≤ (m : Int); omega⟩)) (fun rv h' hq => ?_))
  obtain ⟨q1, q2, z, hz, q3⟩ := hq
  have ez := List.mem_singleton.mp hz
  subst ez
  obtain ⟨q3, q4⟩ := q3
  have q5 := q4 (c, s, fdN r.1 m, fdN r.1 m) List.mem_cons_self
  cases rv with
  | none => exact q3.elim
  | some v =>
    obtain ⟨a, rfl, b1, b2, -⟩ := q3
    exact ⟨q1, opFar_ok hk q2, i32_of q5.1 q5.2, a, rfl, i32_of b1 b2⟩
theorem lSp_feed {p ka kb : Nat} {off : Int} : lSp lJ 16 (p, 1, ka, 84, kb, 135, 2, off) := by
  intro as hl hv h hJ
  match as, hl, hv with
  | [v], _, hv =>
    obtain ⟨u, rfl⟩ := hv v (by simp)
    obtain ⟨r, hr, r1, r2⟩ := fd_r u
    have t := hJ.1 13 1
    rw [show (tTy 13 1).1 = 0 from rfl, show (tTy 13 1).2 = 120 from rfl] at t
    have hm : (h.1 13 1).toInt = (((h.1 13 1).toInt.toNat : Nat) : Int) := by omega
    refine zm_imp (fd_one (k := (58, 5)) (fk_a (h.1 13 1).toInt.toNat (by omega) r hr) (by decide) hJ.1 r1 r2 hm) (fun rv h1 hq => ?_)
    obtain ⟨q1, q2, q3, a, rfl, q4⟩ := hq
    have q2 : h1.1 58 5 = h.1 58 5 := q2
    have hm2 : (h1.1 58 5).toInt = (((h.1 13 1).toInt.toNat : Nat) : Int) := by rw [q2, ← hJ.2]; exact hm
    refine ⟨⟨a, rfl⟩, zm_imp (fd_one (k := (13, 1)) (fk_b (h.1 13 1).toInt.toNat (by omega) r hr) (by decide) q1 r1 r2 hm2) (fun rv' h2 hs => ?_)⟩
    obtain ⟨s1, s2, s3, b, rfl, s4⟩ := hs
    have s2 : h2.1 13 1 = h1.1 13 1 := s2
    have eb : a = b := Int32.toInt_inj.mp (by rw [q4, s4])
    subst eb
    refine ⟨⟨s1, ?_⟩, a, rfl, rfl⟩
    apply Int32.toInt_inj.mp
    rw [s2, q3, s3]

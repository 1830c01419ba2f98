/-! the calls of the law: what each keeps -/
abbrev opCs : List (Nat × Nat) := [(13, 1), (58, 5)]
/-- the two are in step: as many letters told on both sides -/
def lJ (h : zH) : Prop := hTy h ∧ h.1 13 1 = h.1 58 5
def opA (cs : List (Nat × Nat)) (D M r n : Nat) (lg : Bool) : Prop := ∀ (as : List Value), as.length = n → (∀ v ∈ as, ∃ u : Int32, v = .int u) → ∀ h, hTy h → zm D M (.ref r :: as) h (fun rv h' => hTy h' ∧ (∀ c ∈ cs, h'.1 c.1 c.2 = h.1 c.1 c.2) ∧ (bif lg then (∃ u : Int64, rv = some (.long u)) else ∃ u : Int32, rv = some (.int u)))
def opFar (W : List (Nat × Nat × Nat)) (c : Nat × Nat) : Bool := W.all fun w => !(Nat.beq w.1 c.1 && Nat.ble w.2.1 c.2 && Nat.ble c.2 w.2.2)
theorem opFar_ok {W : List (Nat × Nat × Nat)} {c : Nat × Nat} {h h' : zH} (hf : opFar W c = true) (hw : hW W h h') : h'.1 c.1 c.2 = h.1 c.1 c.2 := by
  refine hw c.1 c.2 (fun w hm z => ?_)
  have h1 := List.all_eq_true.mp hf w hm
  obtain ⟨z1, z2, z3⟩ := z
  have e1 : Nat.beq w.1 c.1 = true := by rw [z1]; exact Nat.beq_refl _
  have e2 : Nat.ble w.2.1 c.2 = true := Nat.ble_eq_true_of_le z2
  have e3 : Nat.ble c.2 w.2.2 = true := Nat.ble_eq_true_of_le z3
  rw [e1, e2, e3] at h1
  cases h1
def opOut (lg : Bool) (z : aO) : Bool := match z.1 with
  | some (l, _) => l == lg
  | none => false
theorem opOut_ok {lg : Bool} {z : aO} {rv : Option Value} {h : zH} (hc : opOut lg z = true) (ho : oOk z rv h) : bif lg then (∃ u : Int64, rv = some (.long u)) else ∃ u : Int32, rv = some (.int u) := by
  obtain ⟨zp, zm⟩ := z
  obtain ⟨ho, -⟩ := ho
  unfold opOut at hc
  dsimp only at hc ho
  cases zp with
  | none => cases hc
  | some p =>
    obtain ⟨l, lo, hi, nz⟩ := p
    have hl : l = lg := by simpa using hc
    subst hl
    cases rv with
    | none => exact ho.elim
    | some v =>
      cases l with
      | true =>
        obtain ⟨u, rfl, -⟩ := ho
        exact ⟨u, rfl⟩
      | false =>
        obtain ⟨u, rfl, -⟩ := ho
        exact ⟨u, rfl⟩
def opC (cs : List (Nat × Nat)) (D : Nat) (lg : Bool) (y : aY) : Bool := Nat.ble y.2.2.2.2 D && cs.all (opFar y.2.2.2.1) && y.2.2.1.all (opOut lg)
theorem opC_ok {cs : List (Nat × Nat)} {D M : Nat} {lg : Bool} {y : aY} (hy : yOk M y) (hc : opC cs D lg y = true) {as : List Value} {h : zH} (ht : hTy h) (hp : psOk y.1 as) (hm : mOk h y.2.1) : zm D M as h (fun rv h' => hTy h' ∧ (∀ c ∈ cs, h'.1 c.1 c.2 = h.1 c.1 c.2) ∧ (bif lg then (∃ u : Int64, rv = some (.long u)) else ∃ u : Int32, rv = some (.int u))) := by
  unfold opC at hc
  simp only [Bool.and_eq_true] at hc
  obtain ⟨⟨c1, c2⟩, c3⟩ := hc
  refine zm_le (Nat.le_of_ble_eq_true c1) (zm_imp (hy as h ht hp hm) (fun rv h' hq => ?_))
  obtain ⟨q1, q2, z, hz, q3⟩ := hq
  exact ⟨q1, fun c hcm => opFar_ok (List.all_eq_true.mp c2 c hcm) q2, opOut_ok (List.all_eq_true.mp c3 z hz) q3⟩
abbrev opI : aP := .inl (false, iMin, iMax, false)
theorem ps_int (u : Int32) : pOk opI (.int u) := ⟨u, rfl, (rOk_i.mp (rIn_i u)).1, (rOk_i.mp (rIn_i u)).2, fun q => by cases q⟩
theorem ps_ints : ∀ (n : Nat) (as : List Value), as.length = n → (∀ v ∈ as, ∃ u : Int32, v = .int u) → psOk (List.replicate n opI) as
  | 0, [], _, _ => trivial
  | 0, _ :: _, h, _ => by cases h
  | n + 1, [], h, _ => by cases h
  | n + 1, v :: as, h, hv => by
    obtain ⟨u, rfl⟩ := hv v List.mem_cons_self
    exact ⟨ps_int u, ps_ints n as (Nat.succ.inj h) (fun w hw => hv w (List.mem_cons_of_mem _ hw))⟩
theorem opA_one {cs : List (Nat × Nat)} {D M r n : Nat} {lg : Bool} {y : aY} (hy : yOk M y) (hc : (opC cs D lg y && decide (y.1 = .inr r :: List.replicate n opI) && decide (y.2.1 = [])) = true) : opA cs D M r n lg := by
  simp only [Bool.and_eq_true, decide_eq_true_eq] at hc
  obtain ⟨⟨c1, c2⟩, c3⟩ := hc
  intro as hl hv h ht
  refine opC_ok hy c1 ht ?_ ?_
  · rw [c2]
    exact ⟨rfl, ps_ints n as hl hv⟩
  · rw [c3]
    intro e he
    cases he
theorem hF0 {M : Nat} : ∀ y ∈ ([] : List aY), yOk M y := fun y hy => by cases hy
theorem hFc {M : Nat} {y : aY} {F : List aY} (h : yOk M y) (hF : ∀ y ∈ F, yOk M y) : ∀ y' ∈ (y :: F), yOk M y' := List.forall_mem_cons.mpr ⟨h, hF⟩
def opCov (F : List aY) (r n : Nat) : Prop := ∀ (as : List Value), as.length = n → (∀ v ∈ as, ∃ u : Int32, v = .int u) → ∀ h, hTy h → ∃ y ∈ F, psOk y.1 (.ref r :: as) ∧ mOk h y.2.1
theorem opA_fam {cs : List (Nat × Nat)} {D M r n : Nat} {lg : Bool} {F : List aY} (hF : ∀ y ∈ F, yOk M y) (hc : F.all (opC cs D lg) = true) (hcov : opCov F r n) : opA cs D M r n lg := by
  intro as hl hv h ht
  obtain ⟨y, hy, hp, hm⟩ := hcov as hl hv h ht
  exact opC_ok (hF y hy) (List.all_eq_true.mp hc y hy) ht hp hm
/-- an instance for each length of a part that is copied, one for each side outside -/
def covLC (F : List aY) (r : Nat) : Bool := ((List.range 41).all fun m => F.any fun y => decide (y.1 = [.inr r, opI, opI, opI, opI, .inl (false, (m : Int), (m : Int), false)]) && decide (y.2.1 = [])) && (F.any fun y => decide (y.1 = [.inr r, opI, opI, opI, opI, .inl (false, iMin, -1, false)]) && decide (y.2.1 = [])) && (F.any fun y => decide (y.1 = [.inr r, opI, opI, opI, opI, .inl (false, 41, iMax, false)]) && decide (y.2.1 = []))
theorem covL {F : List aY} {r : Nat} (hc : covLC F r = true) : opCov F r 5 := by
  unfold covLC at hc
  simp only [Bool.and_eq_true] at hc
  obtain ⟨⟨c1, c2⟩, c3⟩ := hc
  intro as hl hv h ht
  match as, hl, hv with
  | [v1, v2, v3, v4, v5], _, hv =>
    obtain ⟨u1, rfl⟩ := hv v1 (by simp)
    obtain ⟨u2, rfl⟩ := hv v2 (by simp)
    obtain ⟨u3, rfl⟩ := hv v3 (by simp)
    obtain ⟨u4, rfl⟩ := hv v4 (by simp)
    obtain ⟨u5, rfl⟩ := hv v5 (by simp)
    have key : ∀ lo hi : Int, lo ≤ u5.toInt → u5.toInt ≤ hi → (F.any fun y => decide (y.1 = [.inr r, opI, opI, opI, opI, .inl (false, lo, hi, false)]) && decide (y.2.1 = [])) = true → ∃ y ∈ F, psOk y.1 [.ref r, .int u1, .int u2, .int u3, .int u4, .int u5] ∧ mOk h y.2.1 := by
      intro lo hi h1 h2 ha
      obtain ⟨y, hy, hd⟩ := List.any_eq_true.mp ha
      simp only [Bool.and_eq_true, decide_eq_true_eq] at hd
      refine ⟨y, hy, ?_, ?_⟩
      · rw [hd.1]
        exact ⟨rfl, ps_int u1, ps_int u2, ps_int u3, ps_int u4, ⟨u5, rfl, h1, h2, fun q => by cases q⟩, trivial⟩
      · rw [hd.2]
        intro e he
        cases he
    have b := rOk_i.mp (rIn_i u5)
    by_cases h1 : u5.toInt < 0
    · exact key iMin (-1) b.1 (by omega) c2
    · by_cases h2 : u5.toInt ≤ 40
      · have hm := List.all_eq_true.mp c1 u5.toInt.toNat (List.mem_range.mpr (by omega))
        exact key _ _ (by omega) (by omega) hm
      · exact key 41 iMax (by omega) b.2 c3
/-- an instance for each number of men -/
def covMC (F : List aY) (r n : Nat) : Bool := ((List.range 5).all fun m => F.any fun y => decide (y.1 = .inr r :: List.replicate n opI) && decide (y.2.1 = [(64, 57, (m : Int), (m : Int))])) && decide ((tTy 64 57).1 = 0) && decide ((tTy 64 57).2 = 4)
theorem covM {F : List aY} {r n : Nat} (hc : covMC F r n = true) : opCov F r n := by
  unfold covMC at hc
  simp only [Bool.and_eq_true, decide_eq_true_eq] at hc
  obtain ⟨⟨c1, c2⟩, c3⟩ := hc
  intro as hl hv h ht
  have t := ht 64 57
  rw [c2, c3] at t
  have hm := List.all_eq_true.mp c1 (h.1 64 57).toInt.toNat (List.mem_range.mpr (by omega))
  obtain ⟨y, hy, hd⟩ := List.any_eq_true.mp hm
  simp only [Bool.and_eq_true, decide_eq_true_eq] at hd
  refine ⟨y, hy, ?_, ?_⟩
  · rw [hd.1]
    exact ⟨rfl, ps_ints n as hl hv⟩
  · rw [hd.2]
    intro e he
    rw [List.mem_singleton.mp he]
    exact ⟨by show (((h.1 64 57).toInt.toNat : Nat) : Int) ≤ (h.1 64 57).toInt; omega, by show (h.1 64 57).toInt ≤ (((h.1 64 57).toInt.toNat : Nat) : Int); omega⟩
/-! the branches of the law -/
theorem lSp_int {p n ka MA kb MB : Nat} {off : Int} (ha : opA opCs 16 MA 0 n false) (hb : opA opCs 16 MB 58 n false) : lSp lJ 16 (p, n, ka, MA, kb, MB, 0, off) := by
  intro as hl hv h hJ
  refine zm_imp (ha as hl hv h hJ.1) (fun rv h1 hq => ?_)
  obtain ⟨q1, q2, q3⟩ := hq
  refine ⟨q3, zm_imp (hb as hl hv h1 q1) (fun rv' h2 hr => ?_)⟩
  obtain ⟨r1, r2, r3⟩ := hr
  refine ⟨⟨r1, ?_⟩, r3⟩
  have a1 := q2 (13, 1) (by decide)
  have a2 := q2 (58, 5) (by decide)
  have b1 := r2 (13, 1) (by decide)
  have b2 := r2 (58, 5) (by decide)
  exact b1.trans (a1.trans (hJ.2.trans (a2.symm.trans b2.symm)))
theorem lSp_lng {p n ka MA kb MB : Nat} {off : Int} (ha : opA opCs 16 MA 0 n true) (hb : opA opCs 16 MB 58 n true) : lSp lJ 16 (p, n, ka, MA, kb, MB, 1, off) := by
  intro as hl hv h hJ
  refine zm_imp (ha as hl hv h hJ.1) (fun rv h1 hq => ?_)
  obtain ⟨q1, q2, q3⟩ := hq
  refine ⟨q3, zm_imp (hb as hl hv h1 q1) (fun rv' h2 hr => ?_)⟩
  obtain ⟨r1, r2, r3⟩ := hr
  refine ⟨⟨r1, ?_⟩, r3⟩
  have a1 := q2 (13, 1) (by decide)
  have a2 := q2 (58, 5) (by decide)
  have b1 := r2 (13, 1) (by decide)
  have b2 := r2 (58, 5) (by decide)
  exact b1.trans (a1.trans (hJ.2.trans (a2.symm.trans b2.symm)))
theorem i32_of {x : Int32} {n : Int} (h1 : n ≤ x.toInt) (h2 : x.toInt ≤ n) : x.toInt = n := by omega
/-- a call without numbers that leaves a place at 0 -/
theorem op_set {M r q s D : Nat} {c : Nat × Nat} {y : aY} (hy : yOk M y) (hc : (Nat.ble y.2.2.2.2 D && decide (y.1 = [.inr r]) && decide (y.2.1 = []) && opFar y.2.2.2.1 c && (y.2.2.1.all fun z => opOut false z && decide (z.2 = [(q, s, 0, 0)]))) = true) {h : zH} (ht : hTy h) : zm D M [.ref r] h (fun rv h' => hTy h' ∧ h'.1 c.1 c.2 = h.1 c.1 c.2 ∧ (h'.1 q s).toInt = 0 ∧ ∃ u : Int32, rv = some (.int u)) := by
  simp only [Bool.and_eq_true, decide_eq_true_eq] at hc
  obtain ⟨⟨⟨⟨c1, c2⟩, c3⟩, c4⟩, c5⟩ := hc
  refine zm_le (Nat.le_of_ble_eq_true c1) (zm_imp (hy [.ref r] h ht (by rw [c2]; exact ⟨rfl, trivial⟩) (by rw [c3]; intro e he; cases he)) (fun rv h' hq => ?_))
  obtain ⟨q1, q2, z, hz, q3⟩ := hq
  have c6 := List.all_eq_true.mp c5 z hz
  simp only [Bool.and_eq_true, decide_eq_true_eq] at c6
  have q4 := q3.2
  rw [c6.2] at q4
  have q5 := q4 (q, s, 0, 0) List.mem_cons_self
  exact ⟨q1, opFar_ok c4 q2, i32_of q5.1 q5.2, opOut_ok (lg := false) c6.1 q3⟩
theorem lSp_cty {p ka MA kb MB : Nat} {off : Int} {ya yb : aY} (ha : yOk MA ya) (hb : yOk MB yb) (ca : (Nat.ble ya.2.2.2.2 16 && decide (ya.1 = [.inr 0]) && decide (ya.2.1 = []) && opFar ya.2.2.2.1 (58, 5) && (ya.2.2.1.all fun z => opOut false z && decide (z.2 = [(13, 1, 0, 0)]))) = true) (cb : (Nat.ble yb.2.2.2.2 16 && decide (yb.1 = [.inr 58]) && decide (yb.2.1 = []) && opFar yb.2.2.2.1 (13, 1) && (yb.2.2.1.all fun z => opOut false z && decide (z.2 = [(58, 5, 0, 0)]))) = true) : lSp lJ 16 (p, 0, ka, MA, kb, MB, 0, off) := by
  intro as hl hv h hJ
  have e : as = [] := List.eq_nil_of_length_eq_zero hl
  subst e
  refine zm_imp (op_set (c := (58, 5)) ha ca hJ.1) (fun rv h1 hq => ?_)
  obtain ⟨q1, -, q2, q3⟩ := hq
  refine ⟨q3, zm_imp (op_set (c := (13, 1)) hb cb q1) (fun rv' h2 hr => ?_)⟩
  obtain ⟨r1, r2, r3, r4⟩ := hr
  refine ⟨⟨r1, ?_⟩, r4⟩
  have r2 : h2.1 13 1 = h1.1 13 1 := r2
  apply Int32.toInt_inj.mp
  rw [r2, q2, r3]
/-- feed: the two answers are the same, and the two stay in step -/
theorem fd_one {M q c s t : Nat} {r : Int × Int} {m : Nat} (hy : yOk M (fdY q c s t r m)) {k : Nat × Nat} (hk : opFar [(c, s, s), (t, 0, 120)] k = true) {u : Int32} {h : zH} (ht : hTy h) (h1 : r.1 ≤ u.toInt) (h2 : u.toInt ≤ r.2) (hm : (h.1 c s).toInt = (m : Int)) : zm 16 M [.ref q, .int u] h (fun rv h' => hTy h' ∧ h'.1 k.1 k.2 = h.1 k.1 k.2 ∧ (h'.1 c s).toInt = fdN r.1 m ∧ ∃ a : Int32, rv = some (.int a) ∧ a.toInt = fdA r.1 m) := by
  refine zm_le (show 1 ≤ 16 by omega) (zm_imp (hy [.ref q, .int u] h ht ⟨rfl, ⟨u, rfl, h1, h2, fun q => by cases q⟩, trivial⟩ (fun e he => by rw [List.mem_singleton.mp he]; exact ⟨by show (m : Int) ≤ (h.1 c s).toInt; omega, by show (h.1 c s).toInt ≤ (m : Int); omega⟩)) (fun rv h' hq => ?_))
  obtain ⟨q1, q2, z, hz, q3⟩ := hq
  have ez := List.mem_singleton.mp hz
  subst ez
  obtain ⟨q3, q4⟩ := q3
  have q5 := q4 (c, s, fdN r.1 m, fdN r.1 m) List.mem_cons_self
  cases rv with
  | none => exact q3.elim
  | some v =>
    obtain ⟨a, rfl, b1, b2, -⟩ := q3
    exact ⟨q1, opFar_ok hk q2, i32_of q5.1 q5.2, a, rfl, i32_of b1 b2⟩
theorem lSp_feed {p ka kb : Nat} {off : Int} : lSp lJ 16 (p, 1, ka, 84, kb, 135, 2, off) := by
  intro as hl hv h hJ
  match as, hl, hv with
  | [v], _, hv =>
    obtain ⟨u, rfl⟩ := hv v (by simp)
    obtain ⟨r, hr, r1, r2⟩ := fd_r u
    have t := hJ.1 13 1
    rw [show (tTy 13 1).1 = 0 from rfl, show (tTy 13 1).2 = 120 from rfl] at t
    have hm : (h.1 13 1).toInt = (((h.1 13 1).toInt.toNat : Nat) : Int) := by omega
    refine zm_imp (fd_one (k := (58, 5)) (fk_a (h.1 13 1).toInt.toNat (by omega) r hr) (by decide) hJ.1 r1 r2 hm) (fun rv h1 hq => ?_)
    obtain ⟨q1, q2, q3, a, rfl, q4⟩ := hq
    have q2 : h1.1 58 5 = h.1 58 5 := q2
    have hm2 : (h1.1 58 5).toInt = (((h.1 13 1).toInt.toNat : Nat) : Int) := by rw [q2, ← hJ.2]; exact hm
    refine ⟨⟨a, rfl⟩, zm_imp (fd_one (k := (13, 1)) (fk_b (h.1 13 1).toInt.toNat (by omega) r hr) (by decide) q1 r1 r2 hm2) (fun rv' h2 hs => ?_)⟩
    obtain ⟨s1, s2, s3, b, rfl, s4⟩ := hs
    have s2 : h2.1 13 1 = h1.1 13 1 := s2
    have eb : a = b := Int32.toInt_inj.mp (by rw [q4, s4])
    subst eb
    refine ⟨⟨s1, ?_⟩, a, rfl, rfl⟩
    apply Int32.toInt_inj.mp
    rw [s2, q3, s3]
theorem oa_80 : opA opCs 16 80 0 3 false := opA_one sk_133 (by decide +kernel)
theorem oa_130 : opA opCs 16 130 58 3 false := opA_one sk_263 (by decide +kernel)
theorem oa_81 : opA opCs 16 81 0 3 false := opA_one sk_134 (by decide +kernel)
theorem oa_131 : opA opCs 16 131 58 3 false := opA_one sk_264 (by decide +kernel)
theorem oa_82 : opA opCs 16 82 0 5 false := opA_fam (F := [sy_135, sy_136, sy_137, sy_138, sy_139, sy_140, sy_141, sy_142, sy_143, sy_144, sy_145, sy_146, sy_147, sy_148, sy_149, sy_150, sy_151, sy_152, sy_153, sy_154, sy_155, sy_156, sy_157, sy_158, sy_159, sy_160, sy_161, sy_162, sy_163, sy_164, sy_165, sy_166, sy_167, sy_168, sy_169, sy_170, sy_171, sy_172, sy_173, sy_174, sy_175, sy_176, sy_177]) (hFc sk_135 (hFc sk_136 (hFc sk_137 (hFc sk_138 (hFc sk_139 (hFc sk_140 (hFc sk_141 (hFc sk_142 (hFc sk_143 (hFc sk_144 (hFc sk_145 (hFc sk_146 (hFc sk_147 (hFc sk_148 (hFc sk_149 (hFc sk_150 (hFc sk_151 (hFc sk_152 (hFc sk_153 (hFc sk_154 (hFc sk_155 (hFc sk_156 (hFc sk_157 (hFc sk_158 (hFc sk_159 (hFc sk_160 (hFc sk_161 (hFc sk_162 (hFc sk_163 (hFc sk_164 (hFc sk_165 (hFc sk_166 (hFc sk_167 (hFc sk_168 (hFc sk_169 (hFc sk_170 (hFc sk_171 (hFc sk_172 (hFc sk_173 (hFc sk_174 (hFc sk_175 (hFc sk_176 (hFc sk_177 hF0))))))))))))))))))))))))))))))))))))))))))) (by decide +kernel) (covL (by decide +kernel))
theorem oa_133 : opA opCs 16 133 58 5 false := opA_fam (F := [sy_265, sy_266, sy_267, sy_268, sy_269, sy_270, sy_271, sy_272, sy_273, sy_274, sy_275, sy_276, sy_277, sy_278, sy_279, sy_280, sy_281, sy_282, sy_283, sy_284, sy_285, sy_286, sy_287, sy_288, sy_289, sy_290, sy_291, sy_292, sy_293, sy_294, sy_295, sy_296, sy_297, sy_298, sy_299, sy_300, sy_301, sy_302, sy_303, sy_304, sy_305, sy_306, sy_307]) (hFc sk_265 (hFc sk_266 (hFc sk_267 (hFc sk_268 (hFc sk_269 (hFc sk_270 (hFc sk_271 (hFc sk_272 (hFc sk_273 (hFc sk_274 (hFc sk_275 (hFc sk_276 (hFc sk_277 (hFc sk_278 (hFc sk_279 (hFc sk_280 (hFc sk_281 (hFc sk_282 (hFc sk_283 (hFc sk_284 (hFc sk_285 (hFc sk_286 (hFc sk_287 (hFc sk_288 (hFc sk_289 (hFc sk_290 (hFc sk_291 (hFc sk_292 (hFc sk_293 (hFc sk_294 (hFc sk_295 (hFc sk_296 (hFc sk_297 (hFc sk_298 (hFc sk_299 (hFc sk_300 (hFc sk_301 (hFc sk_302 (hFc sk_303 (hFc sk_304 (hFc sk_305 (hFc sk_306 (hFc sk_307 hF0))))))))))))))))))))))))))))))))))))))))))) (by decide +kernel) (covL (by decide +kernel))
theorem oa_83 : opA opCs 16 83 0 1 false := opA_one sk_178 (by decide +kernel)
theorem oa_134 : opA opCs 16 134 58 1 false := opA_one sk_308 (by decide +kernel)
theorem lSp_county : lSp lJ 16 (379, 0, 36, 85, 40, 146, 0, 777) := lSp_cty sk_180 sk_310 (by decide +kernel) (by decide +kernel)
theorem oa_86 : opA opCs 16 86 0 0 false := opA_one sk_181 (by decide +kernel)
theorem oa_147 : opA opCs 16 147 58 0 false := opA_one sk_311 (by decide +kernel)
theorem oa_87 : opA opCs 16 87 0 0 false := opA_one sk_182 (by decide +kernel)
theorem oa_149 : opA opCs 16 149 58 0 false := opA_one sk_312 (by decide +kernel)
theorem oa_88 : opA opCs 16 88 0 2 false := opA_one sk_183 (by decide +kernel)
theorem oa_168 : opA opCs 16 168 58 2 false := opA_one sk_313 (by decide +kernel)
theorem oa_89 : opA opCs 16 89 0 1 false := opA_one sk_184 (by decide +kernel)
theorem oa_170 : opA opCs 16 170 58 1 false := opA_one sk_314 (by decide +kernel)
theorem oa_90 : opA opCs 16 90 0 1 false := opA_one sk_185 (by decide +kernel)
theorem oa_172 : opA opCs 16 172 58 1 false := opA_one sk_315 (by decide +kernel)
theorem oa_91 : opA opCs 16 91 0 1 false := opA_one sk_186 (by decide +kernel)
theorem oa_174 : opA opCs 16 174 58 1 false := opA_one sk_316 (by decide +kernel)
theorem oa_92 : opA opCs 16 92 0 2 false := opA_one sk_187 (by decide +kernel)
theorem oa_175 : opA opCs 16 175 58 2 false := opA_one sk_317 (by decide +kernel)
theorem oa_93 : opA opCs 16 93 0 2 false := opA_one sk_188 (by decide +kernel)
theorem oa_176 : opA opCs 16 176 58 2 false := opA_one sk_318 (by decide +kernel)
theorem oa_94 : opA opCs 16 94 0 1 false := opA_one sk_189 (by decide +kernel)
theorem oa_178 : opA opCs 16 178 58 1 false := opA_one sk_319 (by decide +kernel)
theorem oa_95 : opA opCs 16 95 0 2 false := opA_one sk_190 (by decide +kernel)
theorem oa_183 : opA opCs 16 183 58 2 false := opA_one sk_320 (by decide +kernel)
theorem oa_96 : opA opCs 16 96 0 0 false := opA_one sk_191 (by decide +kernel)
theorem oa_184 : opA opCs 16 184 58 0 false := opA_one sk_321 (by decide +kernel)
theorem oa_97 : opA opCs 16 97 0 2 false := opA_one sk_192 (by decide +kernel)
theorem oa_187 : opA opCs 16 187 58 2 false := opA_fam (F := [sy_322, sy_323, sy_324, sy_325, sy_326]) (hFc sk_322 (hFc sk_323 (hFc sk_324 (hFc sk_325 (hFc sk_326 hF0))))) (by decide +kernel) (covM (by decide +kernel))
theorem oa_98 : opA opCs 16 98 0 3 false := opA_one sk_193 (by decide +kernel)
theorem oa_189 : opA opCs 16 189 58 3 false := opA_fam (F := [sy_327, sy_328, sy_329, sy_330, sy_331]) (hFc sk_327 (hFc sk_328 (hFc sk_329 (hFc sk_330 (hFc sk_331 hF0))))) (by decide +kernel) (covM (by decide +kernel))
theorem oa_99 : opA opCs 16 99 0 2 false := opA_one sk_194 (by decide +kernel)
theorem oa_190 : opA opCs 16 190 58 2 false := opA_fam (F := [sy_332, sy_333, sy_334, sy_335, sy_336]) (hFc sk_332 (hFc sk_333 (hFc sk_334 (hFc sk_335 (hFc sk_336 hF0))))) (by decide +kernel) (covM (by decide +kernel))
theorem oa_100 : opA opCs 16 100 0 1 false := opA_one sk_195 (by decide +kernel)
theorem oa_191 : opA opCs 16 191 58 1 false := opA_one sk_337 (by decide +kernel)
theorem oa_101 : opA opCs 16 101 0 1 false := opA_one sk_196 (by decide +kernel)
theorem oa_192 : opA opCs 16 192 58 1 false := opA_one sk_338 (by decide +kernel)
theorem oa_102 : opA opCs 16 102 0 1 false := opA_one sk_197 (by decide +kernel)
theorem oa_193 : opA opCs 16 193 58 1 false := opA_one sk_339 (by decide +kernel)
theorem oa_103 : opA opCs 16 103 0 4 true := opA_one sk_198 (by decide +kernel)
theorem oa_195 : opA opCs 16 195 58 4 true := opA_one sk_340 (by decide +kernel)
theorem oa_104 : opA opCs 16 104 0 3 false := opA_one sk_199 (by decide +kernel)
theorem oa_196 : opA opCs 16 196 58 3 false := opA_one sk_341 (by decide +kernel)
theorem oa_105 : opA opCs 16 105 0 3 false := opA_one sk_200 (by decide +kernel)
theorem oa_199 : opA opCs 16 199 58 3 false := opA_one sk_342 (by decide +kernel)
theorem oa_106 : opA opCs 16 106 0 1 false := opA_one sk_201 (by decide +kernel)
theorem oa_200 : opA opCs 16 200 58 1 false := opA_one sk_343 (by decide +kernel)
theorem oa_107 : opA opCs 16 107 0 1 false := opA_one sk_202 (by decide +kernel)
theorem oa_201 : opA opCs 16 201 58 1 false := opA_one sk_344 (by decide +kernel)
theorem oa_108 : opA opCs 16 108 0 1 false := opA_one sk_203 (by decide +kernel)
theorem oa_202 : opA opCs 16 202 58 1 false := opA_one sk_345 (by decide +kernel)
theorem oa_109 : opA opCs 16 109 0 2 false := opA_one sk_204 (by decide +kernel)
theorem oa_204 : opA opCs 16 204 58 2 false := opA_one sk_346 (by decide +kernel)
theorem oa_110 : opA opCs 16 110 0 2 false := opA_one sk_205 (by decide +kernel)
theorem oa_213 : opA opCs 16 213 58 2 false := opA_one sk_347 (by decide +kernel)
theorem oa_111 : opA opCs 16 111 0 1 false := opA_one sk_206 (by decide +kernel)
theorem oa_214 : opA opCs 16 214 58 1 false := opA_one sk_348 (by decide +kernel)
theorem oa_112 : opA opCs 16 112 0 1 false := opA_one sk_207 (by decide +kernel)
theorem oa_215 : opA opCs 16 215 58 1 false := opA_one sk_349 (by decide +kernel)
theorem oa_113 : opA opCs 16 113 0 0 false := opA_one sk_208 (by decide +kernel)
theorem oa_127 : opA opCs 16 127 58 0 false := opA_one sk_350 (by decide +kernel)
theorem lOps_ok : ∀ o ∈ lOps, lSp lJ 16 o := (List.forall_mem_cons.mpr ⟨(lSp_int oa_80 oa_130), (List.forall_mem_cons.mpr ⟨(lSp_int oa_81 oa_131), (List.forall_mem_cons.mpr ⟨(lSp_int oa_82 oa_133), (List.forall_mem_cons.mpr ⟨(lSp_int oa_83 oa_134), (List.forall_mem_cons.mpr ⟨lSp_feed, (List.forall_mem_cons.mpr ⟨lSp_county, (List.forall_mem_cons.mpr ⟨(lSp_int oa_86 oa_147), (List.forall_mem_cons.mpr ⟨(lSp_int oa_87 oa_149), (List.forall_mem_cons.mpr ⟨(lSp_int oa_88 oa_168), (List.forall_mem_cons.mpr ⟨(lSp_int oa_89 oa_170), (List.forall_mem_cons.mpr ⟨(lSp_int oa_90 oa_172), (List.forall_mem_cons.mpr ⟨(lSp_int oa_91 oa_174), (List.forall_mem_cons.mpr ⟨(lSp_int oa_92 oa_175), (List.forall_mem_cons.mpr ⟨(lSp_int oa_93 oa_176), (List.forall_mem_cons.mpr ⟨(lSp_int oa_94 oa_178), (List.forall_mem_cons.mpr ⟨(lSp_int oa_95 oa_183), (List.forall_mem_cons.mpr ⟨(lSp_int oa_96 oa_184), (List.forall_mem_cons.mpr ⟨(lSp_int oa_97 oa_187), (List.forall_mem_cons.mpr ⟨(lSp_int oa_98 oa_189), (List.forall_mem_cons.mpr ⟨(lSp_int oa_99 oa_190), (List.forall_mem_cons.mpr ⟨(lSp_int oa_100 oa_191), (List.forall_mem_cons.mpr ⟨(lSp_int oa_101 oa_192), (List.forall_mem_cons.mpr ⟨(lSp_int oa_102 oa_193), (List.forall_mem_cons.mpr ⟨(lSp_lng oa_103 oa_195), (List.forall_mem_cons.mpr ⟨(lSp_int oa_104 oa_196), (List.forall_mem_cons.mpr ⟨(lSp_int oa_105 oa_199), (List.forall_mem_cons.mpr ⟨(lSp_int oa_106 oa_200), (List.forall_mem_cons.mpr ⟨(lSp_int oa_107 oa_201), (List.forall_mem_cons.mpr ⟨(lSp_int oa_108 oa_202), (List.forall_mem_cons.mpr ⟨(lSp_int oa_109 oa_204), (List.forall_mem_cons.mpr ⟨(lSp_int oa_110 oa_213), (List.forall_mem_cons.mpr ⟨(lSp_int oa_111 oa_214), (List.forall_mem_cons.mpr ⟨(lSp_int oa_112 oa_215), (List.forall_mem_cons.mpr ⟨(lSp_int oa_113 oa_127), (fun _ h => by cases h)⟩)⟩)⟩)⟩)⟩)⟩)⟩)⟩)⟩)⟩)⟩)⟩)⟩)⟩)⟩)⟩)⟩)⟩)⟩)⟩)⟩)⟩)⟩)⟩)⟩)⟩)⟩)⟩)⟩)⟩)⟩)⟩)⟩)⟩)
theorem lOps_kind : ∀ o ∈ lOps, o.2.2.2.2.2.2.1 < 3 := by decide +kernel

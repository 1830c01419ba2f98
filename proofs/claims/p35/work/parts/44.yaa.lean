/-! texts, faults, counties, acts and images: what ties them -/
theorem pr_fault : pr2 86 147 0 JF := by
  intro as hl hv h ht hJ
  have e : as = [] := List.eq_nil_of_length_eq_zero hl
  subst e
  refine s_86 (fun _ => ?_)
  refine s_147 (fun _ => ?_)
  have j : h.1 0 10 = h.1 58 6 := hJ
  exact ⟨by rw [j], hJ⟩
abbrev J4 : zH → Prop := fun h => JT h ∧ JF h ∧ JC h ∧ JA h
theorem pr_county : pr2 85 146 0 J4 := by
  intro as hl hv h ht hJ
  have e : as = [] := List.eq_nil_of_length_eq_zero hl
  subst e
  obtain ⟨jT, jF, jC, jA⟩ := id hJ
  refine zqm_imp (pr_cty h ht jT jF jC) (fun rv h1 k ht1 => zqm_imp (k ht1) (fun rv' h2 k2 ht2 => ?_))
  obtain ⟨e, a, b, c, d⟩ := k2 ht2
  refine ⟨e, a, b, c, ?_⟩
  rcases d with ⟨d1, d2⟩ | ⟨d1, d2, d3⟩
  · exact JA_fr (h := h) (fun q x y => d1 q (by omega) (by omega) (by omega) (by omega) (by omega)) d2 (d1 65 (by decide) (by decide) (by decide) (by decide) (by decide)) (d1 64 (by decide) (by decide) (by decide) (by decide) (by decide)) jA
  · exact JA_0 d1 d2 d3
abbrev JCI : zH → Prop := fun h => JC h ∧ JI h
abbrev JCIA : zH → Prop := fun h => JC h ∧ JI h ∧ JA h
theorem pr_image : pr2 106 200 1 JCI := by
  intro as hl hv h ht hJ
  match as, hl, hv with
  | [v1], hl, hv =>
    obtain ⟨a, rfl⟩ := hv v1 (by simp)
    refine zqm_imp (im_ok h a hJ.1 hJ.2) (fun rv h1 k ht1 => zqm_imp (k ht1) (fun rv' h2 k2 ht2 => ?_))
    obtain ⟨e, b, c, d⟩ := k2 ht2
    exact ⟨e, b, c⟩
theorem pr_restore : pr2 107 201 1 JCIA := by
  intro as hl hv h ht hJ
  match as, hl, hv with
  | [v1], hl, hv =>
    obtain ⟨a, rfl⟩ := hv v1 (by simp)
    refine zqm_imp (re_ok h a hJ.1 hJ.2.1) (fun rv h1 k ht1 => zqm_imp (k ht1) (fun rv' h2 k2 ht2 => ?_))
    obtain ⟨e, b, c, d, -, -⟩ := k2 ht2
    refine ⟨e, b, c, ?_⟩
    rcases d with d | ⟨d1, d2, d3⟩
    · rw [d]; exact hJ.2.2
    · exact JA_0 d1 d2 d3
abbrev fqT : List Nat := [14, 62]
abbrev fcT : List (Nat × Nat) := [(13, 1), (58, 5)]
abbrev fcF : List (Nat × Nat) := [(0, 10), (58, 6)]
abbrev fqC : List Nat := [15, 16, 17, 18, 19, 20, 21, 22, 64, 66]
abbrev fcC : List (Nat × Nat) := [(58, 13)]
abbrev fqA : List Nat := [48, 49, 50, 51, 64, 65]
abbrev fcA : List (Nat × Nat) := [(58, 12)]
abbrev fqI : List Nat := [31, 32, 33, 34, 35, 36, 37, 38, 39, 40, 41, 42, 43, 44, 45, 46, 72]
abbrev JQ : zH → Prop := fun h => JT h ∧ JF h ∧ JC h ∧ JA h ∧ JI h
theorem k_T {h h' : zH} {qs : List Nat} {cs : List (Nat × Nat)} (hq : ∀ q ∈ qs, h'.1 q = h.1 q) (hc : ∀ c ∈ cs, h'.1 c.1 c.2 = h.1 c.1 c.2) (s1 : ∀ q ∈ fqT, q ∈ qs) (s2 : ∀ c ∈ fcT, c ∈ cs) (hJ : JT h) : JT h' := JT_fr (hc (13, 1) (s2 _ (by decide))) (hc (58, 5) (s2 _ (by decide))) (hq 14 (s1 _ (by decide))) (hq 62 (s1 _ (by decide))) hJ
theorem k_F {h h' : zH} {cs : List (Nat × Nat)} (hc : ∀ c ∈ cs, h'.1 c.1 c.2 = h.1 c.1 c.2) (s2 : ∀ c ∈ fcF, c ∈ cs) (hJ : JF h) : JF h' := by
  have a : h'.1 0 10 = h.1 0 10 := hc (0, 10) (s2 _ (by decide))
  have b : h'.1 58 6 = h.1 58 6 := hc (58, 6) (s2 _ (by decide))
  unfold JF
  rw [a, b]
  exact hJ
theorem k_C {h h' : zH} {qs : List Nat} {cs : List (Nat × Nat)} (hq : ∀ q ∈ qs, h'.1 q = h.1 q) (hc : ∀ c ∈ cs, h'.1 c.1 c.2 = h.1 c.1 c.2) (s1 : ∀ q ∈ fqC, q ∈ qs) (s2 : ∀ c ∈ fcC, c ∈ cs) (hJ : JC h) : JC h' := JC_fr (fun q a b => hq q (s1 q (by
  simp only [fqC, List.mem_cons, List.not_mem_nil, or_false]
  omega))) (hq 64 (s1 _ (by decide))) (hq 66 (s1 _ (by decide))) (hc (58, 13) (s2 _ (by decide))) hJ
theorem k_A {h h' : zH} {qs : List Nat} {cs : List (Nat × Nat)} (hq : ∀ q ∈ qs, h'.1 q = h.1 q) (hc : ∀ c ∈ cs, h'.1 c.1 c.2 = h.1 c.1 c.2) (s1 : ∀ q ∈ fqA, q ∈ qs) (s2 : ∀ c ∈ fcA, c ∈ cs) (hJ : JA h) : JA h' := JA_fr (fun q a b => hq q (s1 q (by
  simp only [fqA, List.mem_cons, List.not_mem_nil, or_false]
  omega))) (hc (58, 12) (s2 _ (by decide))) (hq 65 (s1 _ (by decide))) (hq 64 (s1 _ (by decide))) hJ
theorem k_I {h h' : zH} {qs : List Nat} (hq : ∀ q ∈ qs, h'.1 q = h.1 q) (s1 : ∀ q ∈ fqI, q ∈ qs) (hJ : JI h) : JI h' := JI_fr (fun q a b => hq q (s1 q (by
  simp only [fqI, List.mem_cons, List.not_mem_nil, or_false]
  omega))) (hq 72 (s1 _ (by decide))) hJ
abbrev cb (J J1 : zH → Prop) (qs : List Nat) (cs : List (Nat × Nat)) : Prop := ∀ h h', (∀ q ∈ qs, h'.1 q = h.1 q) → (∀ c ∈ cs, h'.1 c.1 c.2 = h.1 c.1 c.2) → J h → J1 h' → J h'
theorem cb_T : cb JQ JT (fqC ++ fqA ++ fqI) (fcF ++ fcC ++ fcA) := fun _ _ hq hc hJ h1 => ⟨h1, k_F hc (by decide) hJ.2.1, k_C hq hc (by decide) (by decide) hJ.2.2.1, k_A hq hc (by decide) (by decide) hJ.2.2.2.1, k_I hq (by decide) hJ.2.2.2.2⟩
theorem cb_4 : cb JQ J4 fqI [] := fun _ _ hq _ hJ h1 => ⟨h1.1, h1.2.1, h1.2.2.1, h1.2.2.2, k_I hq (by decide) hJ.2.2.2.2⟩
theorem cb_F : cb JQ JF (fqT ++ fqC ++ fqA ++ fqI) (fcT ++ fcC ++ fcA) := fun _ _ hq hc hJ h1 => ⟨k_T hq hc (by decide) (by decide) hJ.1, h1, k_C hq hc (by decide) (by decide) hJ.2.2.1, k_A hq hc (by decide) (by decide) hJ.2.2.2.1, k_I hq (by decide) hJ.2.2.2.2⟩
theorem cb_C : cb JQ JC (fqT ++ fqA ++ fqI) (fcT ++ fcF ++ fcA) := fun _ _ hq hc hJ h1 => ⟨k_T hq hc (by decide) (by decide) hJ.1, k_F hc (by decide) hJ.2.1, h1, k_A hq hc (by decide) (by decide) hJ.2.2.2.1, k_I hq (by decide) hJ.2.2.2.2⟩
theorem cb_CA : cb JQ JCA (fqT ++ fqI) (fcT ++ fcF) := fun _ _ hq hc hJ h1 => ⟨k_T hq hc (by decide) (by decide) hJ.1, k_F hc (by decide) hJ.2.1, h1.1, h1.2, k_I hq (by decide) hJ.2.2.2.2⟩
theorem cb_CI : cb JQ JCI (fqT ++ fqA) (fcT ++ fcF ++ fcA) := fun _ _ hq hc hJ h1 => ⟨k_T hq hc (by decide) (by decide) hJ.1, k_F hc (by decide) hJ.2.1, h1.1, k_A hq hc (by decide) (by decide) hJ.2.2.2.1, h1.2⟩
theorem cb_CIA : cb JQ JCIA fqT (fcT ++ fcF) := fun _ _ hq hc hJ h1 => ⟨k_T hq hc (by decide) (by decide) hJ.1, k_F hc (by decide) hJ.2.1, h1.1, h1.2.2, h1.2.1⟩
theorem fr_JQ (h h' : zH) (hq : ∀ q ∈ fqT ++ fqC ++ fqA ++ fqI, h'.1 q = h.1 q) (hc : ∀ c ∈ fcT ++ fcF ++ fcC ++ fcA, h'.1 c.1 c.2 = h.1 c.1 c.2) (hJ : JQ h) : JQ h' := ⟨k_T hq hc (by decide) (by decide) hJ.1, k_F hc (by decide) hJ.2.1, k_C hq hc (by decide) (by decide) hJ.2.2.1, k_A hq hc (by decide) (by decide) hJ.2.2.2.1, k_I hq (by decide) hJ.2.2.2.2⟩
/-- both answer alike, a part of what ties them is followed, the rest left alone -/
theorem lSp_eq3 {J J1 : zH → Prop} {qs : List Nat} {cs : List (Nat × Nat)} {p n ka MA kb MB : Nat} {off : Int} (ha : opB qs cs 16 MA 0 n false) (hb : opB qs cs 16 MB 58 n false) (hp : pr2 MA MB n J1) (h1 : ∀ h, J h → J1 h) (hc : cb J J1 qs cs) : lSp (fun h => hTy h ∧ J h) 16 (p, n, ka, MA, kb, MB, 2, off) := by
  intro as hl hv h hJ
  refine zm_imp (zm_q (ha as hl hv h hJ.1) (hp as hl hv h hJ.1 (h1 h hJ.2))) (fun rv h1 hq => ?_)
  obtain ⟨⟨q1, q2, q2', q3⟩, q4⟩ := hq
  refine ⟨q3, zm_imp (zm_q (hb as hl hv h1 q1) (q4 q1)) (fun rv' h2 hr => ?_)⟩
  obtain ⟨⟨r1, r2, r2', r3⟩, r4⟩ := hr
  obtain ⟨e, hJ2⟩ := r4 r1
  obtain ⟨u, rfl⟩ := q3
  exact ⟨⟨r1, hc h h2 (fun q z => by rw [r2 q z, q2 q z]) (fun c z => by rw [r2' c z, q2' c z]) hJ.2 hJ2⟩, u, rfl, e⟩
theorem kH0_JQ : JQ kH0 := by
  have a64 : ∀ j : Nat, j < 62 → (kH0.1 64 j).toInt = 0 := by decide
  have a72 : ∀ j : Nat, j < 124 → (kH0.1 72 j).toInt = 0 := by decide
  have a15 : ∀ j : Nat, j < 9 → (kH0.1 15 j).toInt = 0 ∧ (kH0.1 31 j).toInt = 0 ∧ (kH0.1 39 j).toInt = 0 := by decide
  refine ⟨⟨by decide, fun k hk => absurd hk ?_⟩, by unfold JF; decide, ⟨Or.inl ⟨a64, fun j hj => (a15 j hj).1⟩, fun z => absurd (show nowG kH0 61 = 0 from a64 61 (by decide)) (by rw [z]; decide)⟩, JA_0 (by decide) (by decide) (by decide), Or.inl ⟨fun j hj => a72 (62 * 0 + j) (by omega), fun j hj => (a15 j hj).2.1⟩, Or.inl ⟨fun j hj => a72 (62 * 1 + j) (by omega), fun j hj => (a15 j hj).2.2⟩⟩
  have : (kH0.1 13 1).toInt = 0 := by decide
  omega

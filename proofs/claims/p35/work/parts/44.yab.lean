/-! rows, traces, findings beside: what ties them -/
abbrev fqR : List Nat := [3, 4, 5, 6, 7, 8, 9, 10, 11, 12, 59, 60, 61]
abbrev fqX : List Nat := [52, 53, 73]
abbrev fcX : List (Nat × Nat) := [(58, 25)]
abbrev fcS : List (Nat × Nat) := [(0, 11), (58, 3)]
theorem k_R {h h' : zH} {qs : List Nat} (hq : ∀ q ∈ qs, h'.1 q = h.1 q) (s1 : ∀ q ∈ fqR, q ∈ qs) (hJ : JR h) : JR h' := JR_fr (fun q hr => hq q (s1 q (by
  simp only [fqR, List.mem_cons, List.not_mem_nil, or_false]
  omega))) hJ
theorem k_X {h h' : zH} {qs : List Nat} {cs : List (Nat × Nat)} (hq : ∀ q ∈ qs, h'.1 q = h.1 q) (hc : ∀ c ∈ cs, h'.1 c.1 c.2 = h.1 c.1 c.2) (s1 : ∀ q ∈ fqX, q ∈ qs) (s2 : ∀ c ∈ fcX, c ∈ cs) (hJ : JX h) : JX h' := by
  have e : h'.1 58 25 = h.1 58 25 := hc (58, 25) (s2 _ (by decide))
  obtain ⟨L, l1, l2, l3, l4⟩ := hJ
  refine ⟨L, l1, ?_, ?_, fun i hi => ?_⟩
  · rw [hq 52 (s1 _ (by decide))]; exact l2
  · rw [e]; exact l3
  · rw [hq 53 (s1 _ (by decide)), hq 73 (s1 _ (by decide))]; exact l4 i hi
theorem k_S {h h' : zH} {cs : List (Nat × Nat)} (hc : ∀ c ∈ cs, h'.1 c.1 c.2 = h.1 c.1 c.2) (s2 : ∀ c ∈ fcS, c ∈ cs) (hJ : JS h) : JS h' := by
  have a : h'.1 0 11 = h.1 0 11 := hc (0, 11) (s2 _ (by decide))
  have b : h'.1 58 3 = h.1 58 3 := hc (58, 3) (s2 _ (by decide))
  unfold JS
  rw [a, b]
  exact hJ
theorem apl {α : Type} {a b : List α} {p : α → Prop} (h : ∀ x ∈ a ++ b, p x) : ∀ x ∈ a, p x := fun x hx => h x (List.mem_append_left b hx)
theorem apr {α : Type} {a b : List α} {p : α → Prop} (h : ∀ x ∈ a ++ b, p x) : ∀ x ∈ b, p x := fun x hx => h x (List.mem_append_right a hx)
abbrev fqQ : List Nat := fqT ++ fqC ++ fqA ++ fqI
abbrev fcQ : List (Nat × Nat) := fcT ++ fcF ++ fcC ++ fcA
theorem kH0_JR : JR kH0 := fun r hr => by
  have e : ∀ r : Nat, r < 8 → (kH0.1 12 r).toInt = -1 ∧ (kH0.1 59 r).toInt = -1 := by decide
  obtain ⟨e1, e2⟩ := e r hr
  rw [e1, e2]
  exact ⟨Iff.rfl, fun z => absurd z (by decide)⟩
theorem kH0_JX : JX kH0 := ⟨[], by decide, by decide, by decide, fun i hi => by cases hi⟩
theorem kH0_JS : JS kH0 := by unfold JS; decide
/-! with the rows -/
abbrev JQR : zH → Prop := fun h => JQ h ∧ JR h
theorem cb_R {J1 : zH → Prop} {qs : List Nat} {cs : List (Nat × Nat)} (c : cb JQ J1 qs cs) : cb JQR J1 (qs ++ fqR) cs := fun h h' hq hc hJ h1 => ⟨c h h' (apl hq) hc hJ.1 h1, k_R (apr hq) (fun _ z => z) hJ.2⟩
theorem cb_rows : cb JQR JR fqQ fcQ := fun h h' hq hc hJ h1 => ⟨fr_JQ h h' hq hc hJ.1, h1⟩
theorem cb_CR : cb JQR JCR (fqT ++ fqA ++ fqI) (fcT ++ fcF ++ fcA) := fun h h' hq hc hJ h1 => ⟨cb_C h h' hq hc hJ.1 h1.1, h1.2⟩
theorem cb_N : cb JQR JN fqI fcF := fun h h' hq hc hJ h1 => ⟨⟨h1.1, k_F hc (fun _ z => z) hJ.1.2.1, h1.2.1, h1.2.2.1, k_I hq (fun _ z => z) hJ.1.2.2.2.2⟩, h1.2.2.2⟩
theorem fr_JQR (h h' : zH) (hq : ∀ q ∈ fqQ ++ fqR, h'.1 q = h.1 q) (hc : ∀ c ∈ fcQ, h'.1 c.1 c.2 = h.1 c.1 c.2) (hJ : JQR h) : JQR h' := ⟨fr_JQ h h' (apl hq) hc hJ.1, k_R (apr hq) (fun _ z => z) hJ.2⟩
theorem kH0_JQR : JQR kH0 := ⟨kH0_JQ, kH0_JR⟩
/-! with what was begun -/
abbrev JQX : zH → Prop := fun h => JQ h ∧ JX h
theorem cb_X {J1 : zH → Prop} {qs : List Nat} {cs : List (Nat × Nat)} (c : cb JQ J1 qs cs) : cb JQX J1 (qs ++ fqX) (cs ++ fcX) := fun h h' hq hc hJ h1 => ⟨c h h' (apl hq) (apl hc) hJ.1 h1, k_X (apr hq) (apr hc) (fun _ z => z) (fun _ z => z) hJ.2⟩
theorem cb_askx : cb JQX JCX (fqT ++ fqA ++ fqI) (fcT ++ fcF ++ fcA) := fun h h' hq hc hJ h1 => ⟨cb_C h h' hq hc hJ.1 h1.1, h1.2⟩
theorem cb_trace : cb JQX JX fqQ fcQ := fun h h' hq hc hJ h1 => ⟨fr_JQ h h' hq hc hJ.1, h1⟩
theorem fr_JQX (h h' : zH) (hq : ∀ q ∈ fqQ ++ fqX, h'.1 q = h.1 q) (hc : ∀ c ∈ fcQ ++ fcX, h'.1 c.1 c.2 = h.1 c.1 c.2) (hJ : JQX h) : JQX h' := ⟨fr_JQ h h' (apl hq) (apl hc) hJ.1, k_X (apr hq) (apr hc) (fun _ z => z) (fun _ z => z) hJ.2⟩
theorem kH0_JQX : JQX kH0 := ⟨kH0_JQ, kH0_JX⟩
/-! with the rows and what was found -/
abbrev JQS : zH → Prop := fun h => JQ h ∧ JR h ∧ JS h
theorem cb_S {J1 : zH → Prop} {qs : List Nat} {cs : List (Nat × Nat)} (c : cb JQ J1 qs cs) : cb JQS J1 (qs ++ fqR) (cs ++ fcS) := fun h h' hq hc hJ h1 => ⟨c h h' (apl hq) (apl hc) hJ.1 h1, k_R (apr hq) (fun _ z => z) hJ.2.1, k_S (apr hc) (fun _ z => z) hJ.2.2⟩
theorem cb_rowS : cb JQS JRS fqQ fcQ := fun h h' hq hc hJ h1 => ⟨fr_JQ h h' hq hc hJ.1, h1⟩
theorem cb_CRS : cb JQS JCRS (fqT ++ fqA ++ fqI) (fcT ++ fcF ++ fcA) := fun h h' hq hc hJ h1 => ⟨cb_C h h' hq hc hJ.1 h1.1, h1.2⟩
theorem cb_CS : cb JQS JCS ((fqT ++ fqA ++ fqI) ++ fqR) (fcT ++ fcF ++ fcA) := fun h h' hq hc hJ h1 => ⟨cb_C h h' (apl hq) hc hJ.1 h1.1, k_R (apr hq) (fun _ z => z) hJ.2.1, h1.2⟩
theorem cb_status : cb JQS JS (fqQ ++ fqR) fcQ := fun h h' hq hc hJ h1 => ⟨fr_JQ h h' (apl hq) hc hJ.1, k_R (apr hq) (fun _ z => z) hJ.2.1, h1⟩
theorem fr_JQS (h h' : zH) (hq : ∀ q ∈ fqQ ++ fqR, h'.1 q = h.1 q) (hc : ∀ c ∈ fcQ ++ fcS, h'.1 c.1 c.2 = h.1 c.1 c.2) (hJ : JQS h) : JQS h' := ⟨fr_JQ h h' (apl hq) (apl hc) hJ.1, k_R (apr hq) (fun _ z => z) hJ.2.1, k_S (apr hc) (fun _ z => z) hJ.2.2⟩
theorem kH0_JQS : JQS kH0 := ⟨kH0_JQ, kH0_JR, kH0_JS⟩

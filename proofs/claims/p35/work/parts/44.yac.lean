/-! answers that are longs -/
theorem lSp_eq3l {J J1 : zH → Prop} {qs : List Nat} {cs : List (Nat × Nat)} {p n ka MA kb MB : Nat} {off : Int} (ha : opB qs cs 16 MA 0 n true) (hb : opB qs cs 16 MB 58 n true) (hp : pr2 MA MB n J1) (h1 : ∀ h, J h → J1 h) (hc : cb J J1 qs cs) : lSp (fun h => hTy h ∧ J h) 16 (p, n, ka, MA, kb, MB, 3, off) := by
  intro as hl hv h hJ
  refine zm_imp (zm_q (ha as hl hv h hJ.1) (hp as hl hv h hJ.1 (h1 h hJ.2))) (fun rv h1 hq => ?_)
  obtain ⟨⟨q1, q2, q2', q3⟩, q4⟩ := hq
  refine ⟨q3, zm_imp (zm_q (hb as hl hv h1 q1) (q4 q1)) (fun rv' h2 hr => ?_)⟩
  obtain ⟨⟨r1, r2, r2', r3⟩, r4⟩ := hr
  obtain ⟨e, hJ2⟩ := r4 r1
  obtain ⟨u, rfl⟩ := q3
  exact ⟨⟨r1, hc h h2 (fun q z => by rw [r2 q z, q2 q z]) (fun c z => by rw [r2' c z, q2' c z]) hJ.2 hJ2⟩, u, rfl, e⟩

/-! feed, county, fault: the two sides answer alike -/
theorem q_53 {h : zH} {Q : Option Value → zH → Prop} (H : Q (some (.int (zbo (120 ≤ (h.1 13 1).toInt)))) h) : zqm 53 [.ref 13] h Q := by
  refine s_53 ⟨fun c => ?_, fun c => ?_⟩
  · first | (rw [zbT (by omega)] at H; exact H) | (rw [zbF (by omega)] at H; exact H)
  · first | (rw [zbT (by omega)] at H; exact H) | (rw [zbF (by omega)] at H; exact H)
theorem q_54 {h : zH} {Q : Option Value → zH → Prop} (a1 : Int32) (h0 : 0 ≤ (h.1 13 1).toInt) (h1 : (h.1 13 1).toInt < 120) (H : Q (some (.int (h.1 13 1 + Int32.ofInt 1))) (zSet (zSet h 14 (h.1 13 1).toInt.toNat a1) 13 1 (h.1 13 1 + Int32.ofInt 1))) : zqm 54 [.ref 13, .int a1] h Q := by
  refine s_54 a1 ⟨fun c => ?_, fun c => ?_⟩
  · first | (exfalso; omega) | exact fun _ _ => H
  · first | (exfalso; omega) | exact fun _ _ => H
theorem q_84 {h : zH} {Q : Option Value → zH → Prop} (a1 : Int32) (ht : hTy h) (k1 : ¬ (0 ≤ a1.toInt ∧ a1.toInt ≤ 255) → Q (some (.int (-1000001 : Int32))) h) (k2 : 0 ≤ a1.toInt ∧ a1.toInt ≤ 255 → (h.1 13 1).toInt = 120 → Q (some (.int (-1000003 : Int32))) h) (k3 : 0 ≤ a1.toInt ∧ a1.toInt ≤ 255 → (h.1 13 1).toInt < 120 → Q (some (.int (h.1 13 1 + Int32.ofInt 1))) (zSet (zSet h 14 (h.1 13 1).toInt.toNat a1) 13 1 (h.1 13 1 + Int32.ofInt 1))) : zqm 84 [.ref 0, .int a1] h Q := by
  have t : 0 ≤ (h.1 13 1).toInt ∧ (h.1 13 1).toInt ≤ 120 := ht 13 1
  refine s_84 a1 ⟨fun c => k1 (by omega), fun c => ⟨fun d => ?_, fun d => k1 (by omega)⟩⟩
  refine q_53 ?_
  refine zri_int ?_
  refine ⟨fun e => ?_, fun e => k2 (by omega) (by have := zb1.mp e; omega)⟩
  have e := zb0.mp e
  refine q_54 a1 t.1 (by omega) ?_
  exact zri_int (k3 (by omega) (by omega))
theorem q_135 {h : zH} {Q : Option Value → zH → Prop} (a1 : Int32) (k1 : ¬ (0 ≤ a1.toInt ∧ a1.toInt ≤ 255) → Q (some (.int (-1000001 : Int32))) h) (k2 : 0 ≤ a1.toInt ∧ a1.toInt ≤ 255 → (h.1 58 5).toInt = 120 → Q (some (.int (-1000003 : Int32))) h) (k3 : 0 ≤ a1.toInt ∧ a1.toInt ≤ 255 → ¬ (h.1 58 5).toInt = 120 → Q (some (.int (h.1 58 5 + Int32.ofInt 1))) (zSet (zSet h 62 (h.1 58 5).toInt.toNat a1) 58 5 (h.1 58 5 + Int32.ofInt 1))) : zqm 135 [.ref 58, .int a1] h Q := by
  refine s_135 a1 ?_
  refine q_121 _ _ _ ?_
  refine zri_int ?_
  rw [kc_0, kc_255]
  refine ⟨fun c => ⟨fun d _ _ => k3 (zb1.mp c) d, fun d => k2 (zb1.mp c) (Decidable.not_not.mp d)⟩, fun c => k1 (zb2.mp c)⟩
theorem JT_fr {h h' : zH} (h1 : h'.1 13 1 = h.1 13 1) (h2 : h'.1 58 5 = h.1 58 5) (h3 : h'.1 14 = h.1 14) (h4 : h'.1 62 = h.1 62) (hJ : JT h) : JT h' := by
  unfold JT
  rw [h1, h2, h3, h4]
  exact hJ
theorem pr_feed : pr2 84 135 1 JT := by
  intro as hl hv h ht hJ
  match as, hl, hv with
  | [v1], hl, hv =>
    obtain ⟨a, rfl⟩ := hv v1 (by simp)
    obtain ⟨j1, j2⟩ := id hJ
    have t : 0 ≤ (h.1 13 1).toInt ∧ (h.1 13 1).toInt ≤ 120 := ht 13 1
    have e5 : (h.1 58 5).toInt = (h.1 13 1).toInt := by rw [j1]
    refine q_84 a ht (fun c ht1 => ?_) (fun c d ht1 => ?_) (fun c d ht1 => ?_)
    · refine q_135 a (fun _ _ => ⟨rfl, hJ⟩) (fun z => absurd z c) (fun z => absurd z c)
    · refine q_135 a (fun z => absurd c z) (fun _ _ _ => ⟨rfl, hJ⟩) (fun _ z => ?_)
      exfalso; omega
    · have g5 : (zSet (zSet h 14 (h.1 13 1).toInt.toNat a) 13 1 (h.1 13 1 + Int32.ofInt 1)).1 58 5 = h.1 58 5 := by rw [fr1 (by decide), fr1 (by decide)]
      refine q_135 a (fun z => absurd c z) (fun _ z => ?_) (fun _ _ _ => ?_)
      · rw [g5] at z
        exfalso; omega
      · rw [g5, ← j1]
        refine ⟨rfl, ?_, fun k hk => ?_⟩
        · rw [fr1 (by decide), fr1 (by decide), fr3, fr3]
        · have e' := ai (x := h.1 13 1) (k := 1) (by omega) (by omega) (by omega) (by omega)
          rw [fr1 (show (13 : Nat) ≠ 58 by decide), fr1 (show (13 : Nat) ≠ 62 by decide), fr3] at hk
          rw [fr1 (show (14 : Nat) ≠ 58 by decide), fr1 (show (14 : Nat) ≠ 62 by decide), fr1 (show (14 : Nat) ≠ 13 by decide), fr1 (show (62 : Nat) ≠ 58 by decide)]
          by_cases z : k = (h.1 13 1).toInt.toNat
          · rw [z, fr3, fr3]
          · rw [fr2 z, fr2 z, fr1 (show (62 : Nat) ≠ 13 by decide), fr1 (show (62 : Nat) ≠ 14 by decide)]
            exact j2 k (by omega)
theorem e10m {a b : Int32} (e : a.toInt = b.toInt) : a = b := Int32.toInt_inj.mp e
/-- county: both answer alike; tape, fault and county are tied behind it, no act is kept -/
theorem pr_cty : ∀ h, hTy h → JT h → JF h → JC h → zqm 85 [.ref 0] h (fun rv h1 => hTy h1 → zqm 146 [.ref 58] h1 (fun rv' h2 => hTy h2 → rv' = rv ∧ JT h2 ∧ JF h2 ∧ JC h2 ∧ ((∀ q : Nat, q ≠ 0 → q ≠ 13 → (q < 23 ∨ 31 ≤ q) → q ≠ 58 → q ≠ 63 → h2.1 q = h.1 q) ∧ h2.1 58 12 = h.1 58 12 ∨ h2.1 48 3 = Int32.ofInt 0 ∧ h2.1 48 4 = Int32.ofInt 0 ∧ h2.1 58 12 = Int32.ofInt 0))) := by
  intro h ht jT jF jC
  obtain ⟨j1, j2⟩ := id jT
  have t : 0 ≤ (h.1 13 1).toInt ∧ (h.1 13 1).toInt ≤ 120 := ht 13 1
  refine q_85 (T := h.1 14) (N := (h.1 13 1).toInt) rfl rfl t.1 t.2 (fun K w h1 s1 s2 ew f1 f2 f3 f4 ht1 => ?_) (fun K h1 s1 s2 f1 f2 f3 f4 f5 f6 ht1 => ?_)
  · have g62 : h1.1 62 = h.1 62 := f1 62 (by decide) (by decide) (by decide)
    have g58 : h1.1 58 = h.1 58 := f1 58 (by decide) (by decide) (by decide)
    refine q_146 (T := h.1 14) (N := (h.1 13 1).toInt) (fun k hk => by rw [g62]; exact (j2 k hk).symm) (by rw [g58, ← j1]) t.1 t.2 (fun K' w' h2 r1 r2 ew' u1 u2 u3 u4 _ => ?_) (fun K' h2 r1 r2 => ?_)
    · have eK := stp_u s1 r1
      subst eK
      have eww : w' = w := e10m (by rw [ew, ew'])
      subst eww
      refine ⟨rfl, ⟨?_, fun k hk => ?_⟩, ?_, ?_, Or.inl ⟨fun q c1 c2 c3 c4 c5 => ?_, ?_⟩⟩
      · rw [u1 13 (by decide) (by decide), f2, u3]
      · rw [u1 13 (by decide) (by decide), f2, kc_0] at hk
        exfalso; omega
      · unfold JF
        rw [u1 0 (by decide) (by decide)]
        exact e10m (by rw [f3, u4])
      · obtain ⟨c1, c2⟩ := jC
        have e64 : h2.1 64 = h.1 64 := by rw [u1 64 (by decide) (by decide), f1 64 (by decide) (by decide) (by decide)]
        have eG : nowG h2 = nowG h := by unfold nowG; rw [e64]
        unfold JC
        rw [eG]
        refine ⟨CT_fr (fun q a b => ?_) c1, fun z => ?_⟩
        · rw [u1 q (by omega) (by omega), f1 q (by omega) (by omega) (by omega)]
        · rw [u2 13 (by decide) (by decide) (by decide) (by decide), u1 66 (by decide) (by decide), g58, f1 66 (by decide) (by decide) (by decide)]
          exact c2 z
      · rw [u1 q c4 c5, f1 q c1 c2 c3]
      · rw [u2 12 (by decide) (by decide) (by decide) (by decide), g58]
    · have eK := stp_u s1 r1
      subst eK
      exact absurd r2 s2
  · have g62 : h1.1 62 = h.1 62 := f1 62 (by decide) (by decide) (by decide)
    have g58 : h1.1 58 = h.1 58 := f1 58 (by decide) (by decide) (by decide)
    refine q_146 (T := h.1 14) (N := (h.1 13 1).toInt) (fun k hk => by rw [g62]; exact (j2 k hk).symm) (by rw [g58, ← j1]) t.1 t.2 (fun K' w' h2 r1 r2 => ?_) (fun K' h2 r1 r2 u1 u2 u3 u4 u5 u6 => ?_)
    · have eK := stp_u s1 r1
      subst eK
      exact absurd s2 r2
    · have eK := stp_u s1 r1
      subst eK
      have K4 := menS_4 s2 (Or.inr trivial)
      obtain ⟨v1, v2, v3, v4, v5, v6⟩ := id u5
      have pG : pg (h.1 14) (h.1 13 1).toInt K (nowG h2) := ⟨v1, v2, v3, v4, v5, by show (h2.1 64 60).toInt = 0; rw [v6]; exact kc_0, by show (h2.1 64 61).toInt = 1; rw [u6]; decide⟩
      refine q_155 (gyD (nowG h2)) (gyE (nowG h2)) K (fun c hc => rfl) (fun s hs => rfl) v2 K4 (fun h3 x1 x2 x3 x4 _ => ?_)
      have e64 : h3.1 64 = h2.1 64 := x1 64 (by decide) (by decide)
      have eG : nowG h3 = nowG h2 := by unfold nowG; rw [e64]
      refine ⟨?_, ⟨?_, fun k hk => ?_⟩, ?_, ⟨?_, fun z => ?_⟩, Or.inr ⟨?_, ?_, ?_⟩⟩
      · rw [e64]
        exact congrArg (fun z => some (Value.int z)) (e10m (by rw [v2, f6]))
      · rw [x1 13 (by decide) (by decide), u1 13 (by decide) (by decide) (by decide), f2, x2 5 (by decide), u3]
      · rw [x1 13 (by decide) (by decide), u1 13 (by decide) (by decide) (by decide), f2, kc_0] at hk
        exfalso; omega
      · unfold JF
        rw [x1 0 (by decide) (by decide), u1 0 (by decide) (by decide) (by decide), f1 0 (by decide) (by decide) (by decide), x2 6 (by decide), u2 6 (by decide) (by decide) (by decide) (by decide), g58]
        exact jF
      · rw [eG]
        refine CT_fr (h := h1) (fun q a b => ?_) (f5 _ pG)
        rw [x1 q (by omega) (by omega), u1 q (by omega) (by omega) (by omega)]
      · rw [eG]
        refine ⟨x3, fun s hs => x4 s ?_⟩
        have : nowG h2 57 = (K : Int) := v2
        omega
      · rw [x1 48 (by decide) (by decide), u1 48 (by decide) (by decide) (by decide), f3]
      · rw [x1 48 (by decide) (by decide), u1 48 (by decide) (by decide) (by decide), f4]
      · rw [x2 12 (by decide), u4]

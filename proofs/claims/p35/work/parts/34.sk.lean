/-! every summary is so -/
theorem hT0 : ∀ e ∈ ([] : List (Nat × aY)), yOk e.1 e.2 := fun e he => by cases he
theorem hTc {M : Nat} {y : aY} {T : List (Nat × aY)} (h : yOk M y) (hT : ∀ e ∈ T, yOk e.1 e.2) : ∀ e ∈ ((M, y) :: T), yOk e.1 e.2 := fun e he => by
  rcases List.mem_cons.mp he with rfl | he
  · exact h
  · exact hT e he
theorem aEnt_ok {T : List (Nat × aY)} {inl : List Nat} {M : Nat} {y : aY} {hs : List (Nat × List aH)} {fuel : Nat} {e : zE} (hT : ∀ e ∈ T, yOk e.1 e.2) (h8 : (hs.all fun h => h.2.all fun v => Nat.ble v.2.2.1.length 8) = true) (hM : zP[M]? = some e)
    (ha : (let m := aMkL (aPre y.1 ++ List.replicate (zx e - (aPre y.1).length) none) (aMkM y.2.1 aX0); ana T inl y.2.2.2.1 y.2.2.2.2 hs y.2.2.1 none fuel false (m.1, [(M, 0, m.2, [])])) = true) (as : List Value) (h0 : zH) (ht0 : hTy h0) (hps : psOk y.1 as) (hm : mOk h0 y.2.1)
    (heads : ∀ (pc : Nat) (invs : List aH) (v : aH) (L : zLo) (h : zH), zFind pc hs = some invs → v ∈ invs → lOkP v.1 L → mOk h v.2.1 → hTy h → hW y.2.2.2.1 h0 h → zwM y.2.2.2.2 M pc L [] h (yQ y.2.2.2.1 y.2.2.1 h0)) : zm y.2.2.2.2 M as h0 (yQ y.2.2.2.1 y.2.2.1 h0) := by
  have hlen8 : ∀ pc invs, zFind pc hs = some invs → ∀ v ∈ invs, v.2.2.1.length ≤ 8 := fun pc invs hz v hv => Nat.le_of_ble_eq_true (List.all_eq_true.mp (zFind_all h8 hz) v hv)
  have hl := lOk_pre hps
  obtain ⟨ρ1, p1, p2⟩ := aMkM_ok ht0 y.2.1 [] aX0 (gX0 h0) hm
  have hn := lOk_len hl
  have hle : lOkP (aPre y.1 ++ List.replicate (zx e - (aPre y.1).length) none) (zEnt as (zx e)) := by
    show lOkP _ (zSl as ++ List.replicate (zx e - (zSl as).length) none)
    rw [hn]
    exact lOk_app hl (lOk_rep _)
  obtain ⟨ρ2, p3, p4, p5⟩ := aMkL_ok _ (zEnt as (zx e)) ρ1 _ p2 hle
  have hA := ana_ok (rk := none) (M0 := M) (m0 := 0) (h0 := h0) hT hlen8 (fun pc' invs' v' L' h' z1 z2 z3 z4 z5 z6 _ => heads pc' invs' v' L' h' z1 z2 z3 z4 z5 z6) fuel false _ ha
  have hg := hA ρ2 h0 [(M, 0, zEnt as (zx e), [])] p4 ht0 hW.rf ⟨rfl, rfl, p5, trivial, trivial⟩ rfl (by show 0 + 1 ≤ _; omega) trivial
  obtain ⟨e', he', hw'⟩ := hg
  cases hM.symm.trans he'
  exact zm_of hM hw'
theorem aHd_ok {T : List (Nat × aY)} {inl : List Nat} {M pc : Nat} {W : List (Nat × Nat × Nat)} {D : Nat} {outs : List aO} {hs : List (Nat × List aH)} {fuel : Nat} {v : aH} {h0 : zH} (hT : ∀ e ∈ T, yOk e.1 e.2) (h8 : (hs.all fun h => h.2.all fun v => Nat.ble v.2.2.1.length 8) = true)
    (ha : (let m := aMkL v.1 (aMkM v.2.1 aX0); ana T inl W D hs outs none fuel true (m.1, [(M, pc, m.2, [])])) = true) (L : zLo) (h : zH) (hl : lOkP v.1 L) (hmo : mOk h v.2.1) (ht : hTy h) (hw : hW W h0 h)
    (heads : ∀ (pc : Nat) (invs : List aH) (v : aH) (L : zLo) (h : zH), zFind pc hs = some invs → v ∈ invs → lOkP v.1 L → mOk h v.2.1 → hTy h → hW W h0 h → zwM D M pc L [] h (yQ W outs h0)) : zwM D M pc L [] h (yQ W outs h0) := by
  have hlen8 : ∀ pc invs, zFind pc hs = some invs → ∀ v ∈ invs, v.2.2.1.length ≤ 8 := fun pc invs hz v hv => Nat.le_of_ble_eq_true (List.all_eq_true.mp (zFind_all h8 hz) v hv)
  obtain ⟨ρ1, p1, p2⟩ := aMkM_ok ht v.2.1 [] aX0 (gX0 h) hmo
  obtain ⟨ρ2, p3, p4, p5⟩ := aMkL_ok v.1 L ρ1 _ p2 hl
  have hA := ana_ok (rk := none) (M0 := M) (m0 := 0) (h0 := h0) hT hlen8 (fun pc' invs' v' L' h' z1 z2 z3 z4 z5 z6 _ => heads pc' invs' v' L' h' z1 z2 z3 z4 z5 z6) fuel true _ ha
  exact hA ρ2 h [(M, pc, L, [])] p4 ht hw ⟨rfl, rfl, p5, trivial, trivial⟩ rfl (by show 0 + 1 ≤ _; omega) trivial
theorem bits_y : yOk 123 ([.inl (false, iMin, iMax, false)], [], [(some (false, iMin, iMax, false), [])], [], 0) := by
  intro as h ht hps hm
  cases as with
  | nil => exact hps.elim
  | cons v vs =>
    cases vs with
    | cons w ws => exact hps.2.elim
    | nil =>
      obtain ⟨u, rfl, -, -, -⟩ := hps.1
      refine zm_imp (bits_ok 0 h u) (fun rv h' hr => ?_)
      obtain ⟨rfl, r, rfl⟩ := hr
      have b := rOk_i.mp (rIn_i r)
      exact ⟨ht, hW.rf, _, List.mem_cons_self, ⟨r, rfl, b.1, b.2, (fun q => by cases q)⟩, (fun e he => by cases he)⟩
theorem div_y : yOk 194 ([.inl (true, lMin, lMax, false), .inl (true, lMin, lMax, true)], [], [(some (true, lMin, lMax, true), [])], [], 0) := by
  intro as h ht hps hm
  cases as with
  | nil => exact hps.elim
  | cons v vs =>
    cases vs with
    | nil => exact hps.2.elim
    | cons w ws =>
      cases ws with
      | cons w ws => exact hps.2.2.elim
      | nil =>
        obtain ⟨u, rfl, -, -, -⟩ := hps.1
        obtain ⟨t, rfl, -, -, ht0⟩ := hps.2.1
        refine zm_imp (div_ok 0 h u t (ht0 rfl)) (fun rv h' hr => ?_)
        obtain ⟨rfl, r, rfl, hr0⟩ := hr
        have b := rOk_l.mp (rIn_l r)
        exact ⟨ht, hW.rf, _, List.mem_cons_self, ⟨r, rfl, b.1, b.2, fun _ => hr0⟩, (fun e he => by cases he)⟩
theorem sk_1 : yOk 48 sy_1 := aChk_ok (T := sT_1) hT0 (by decide +kernel) sc_1
theorem sk_2 : yOk 49 sy_2 := aChk_ok (T := sT_2) hT0 (by decide +kernel) sc_2
theorem sk_3 : yOk 50 sy_3 := aChk_ok (T := sT_3) (hTc sk_1 (hTc sk_2 hT0)) (by decide +kernel) sc_3
theorem sk_4 : yOk 51 sy_4 := aChk_ok (T := sT_4) hT0 (by decide +kernel) sc_4
theorem sk_5 : yOk 52 sy_5 := aChk_ok (T := sT_5) hT0 (by decide +kernel) sc_5
theorem sk_6 : yOk 14 sy_6 := aChk_ok (T := sT_6) hT0 (by decide +kernel) sc_6
theorem sk_7 : yOk 15 sy_7 := aChk_ok (T := sT_7) hT0 (by decide +kernel) sc_7
theorem sk_8 : yOk 16 sy_8 := aChk_ok (T := sT_8) hT0 (by decide +kernel) sc_8
theorem sk_9 : yOk 217 sy_9 := aChk_ok (T := sT_9) hT0 (by decide +kernel) sc_9
theorem sk_10 : yOk 216 sy_10 := aChk_ok (T := sT_10) hT0 (by decide +kernel) sc_10
theorem sk_11 : yOk 219 sy_11 := aChk_ok (T := sT_11) hT0 (by decide +kernel) sc_11
theorem sk_12 : yOk 220 sy_12 := aChk_ok (T := sT_12) hT0 (by decide +kernel) sc_12
theorem sk_13 : yOk 221 sy_13 := aChk_ok (T := sT_13) hT0 (by decide +kernel) sc_13
theorem sk_14 : yOk 218 sy_14 := aChk_ok (T := sT_14) hT0 (by decide +kernel) sc_14
theorem sk_15 : yOk 39 sy_15 := aChk_ok (T := sT_15) hT0 (by decide +kernel) sc_15
theorem sk_16 : yOk 38 sy_16 := aChk_ok (T := sT_16) (hTc sk_11 (hTc sk_15 hT0)) (by decide +kernel) sc_16
theorem sk_17 : yOk 40 sy_17 := aChk_ok (T := sT_17) hT0 (by decide +kernel) sc_17
theorem sk_18 : yOk 41 sy_18 := aChk_ok (T := sT_18) (hTc sk_17 hT0) (by decide +kernel) sc_18
theorem sk_19 : yOk 42 sy_19 := aChk_ok (T := sT_19) (hTc sk_12 (hTc sk_13 (hTc sk_16 hT0))) (by decide +kernel) sc_19
theorem sk_20 : yOk 21 sy_20 := aChk_ok (T := sT_20) hT0 (by decide +kernel) sc_20
theorem sk_21 : yOk 13 sy_21 := aChk_ok (T := sT_21) (hTc sk_6 (hTc sk_7 (hTc sk_8 (hTc sk_20 hT0)))) (by decide +kernel) sc_21
theorem sk_22 : yOk 12 sy_22 := aChk_ok (T := sT_22) (hTc sk_6 (hTc sk_21 hT0)) (by decide +kernel) sc_22
theorem sk_23 : yOk 10 sy_23 := aChk_ok (T := sT_23) hT0 (by decide +kernel) sc_23
theorem sk_24 : yOk 21 sy_24 := aChk_ok (T := sT_24) hT0 (by decide +kernel) sc_24
theorem sk_25 : yOk 13 sy_25 := aChk_ok (T := sT_25) (hTc sk_6 (hTc sk_7 (hTc sk_8 (hTc sk_24 hT0)))) (by decide +kernel) sc_25
theorem sk_26 : yOk 12 sy_26 := aChk_ok (T := sT_26) (hTc sk_6 (hTc sk_25 hT0)) (by decide +kernel) sc_26
theorem sk_27 : yOk 10 sy_27 := aChk_ok (T := sT_27) hT0 (by decide +kernel) sc_27
theorem sk_28 : yOk 17 sy_28 := aChk_ok (T := sT_28) (hTc sk_9 hT0) (by decide +kernel) sc_28
theorem sk_29 : yOk 18 sy_29 := aChk_ok (T := sT_29) (hTc sk_28 hT0) (by decide +kernel) sc_29
theorem sk_30 : yOk 22 sy_30 := aChk_ok (T := sT_30) hT0 (by decide +kernel) sc_30
theorem sk_31 : yOk 23 sy_31 := aChk_ok (T := sT_31) hT0 (by decide +kernel) sc_31
theorem sk_32 : yOk 24 sy_32 := aChk_ok (T := sT_32) (hTc sk_28 hT0) (by decide +kernel) sc_32
theorem sk_33 : yOk 26 sy_33 := aChk_ok (T := sT_33) (hTc sk_4 hT0) (by decide +kernel) sc_33
theorem sk_34 : yOk 28 sy_34 := aChk_ok (T := sT_34) (hTc sk_4 (hTc sk_5 (hTc sk_10 (hTc sk_20 hT0)))) (by decide +kernel) sc_34
theorem sk_35 : yOk 30 sy_35 := aChk_ok (T := sT_35) hT0 (by decide +kernel) sc_35
theorem sk_36 : yOk 29 sy_36 := aChk_ok (T := sT_36) (hTc sk_9 (hTc sk_35 hT0)) (by decide +kernel) sc_36
theorem sk_37 : yOk 32 sy_37 := aChk_ok (T := sT_37) (hTc sk_28 hT0) (by decide +kernel) sc_37
theorem sk_38 : yOk 31 sy_38 := aChk_ok (T := sT_38) (hTc sk_4 (hTc sk_37 hT0)) (by decide +kernel) sc_38
theorem sk_39 : yOk 27 sy_39 := aChk_ok (T := sT_39) (hTc sk_2 (hTc sk_3 hT0)) (by decide +kernel) sc_39
theorem sk_40 : yOk 19 sy_40 := aChk_ok (T := sT_40) (hTc sk_28 hT0) (by decide +kernel) sc_40
theorem sk_41 : yOk 11 sy_41 := aChk_ok (T := sT_41) hT0 (by decide +kernel) sc_41
theorem sk_42 : yOk 11 sy_42 := aChk_ok (T := sT_42) hT0 (by decide +kernel) sc_42
theorem sk_43 : yOk 11 sy_43 := aChk_ok (T := sT_43) hT0 (by decide +kernel) sc_43
theorem sk_44 : yOk 11 sy_44 := aChk_ok (T := sT_44) hT0 (by decide +kernel) sc_44
theorem sk_45 : yOk 11 sy_45 := aChk_ok (T := sT_45) hT0 (by decide +kernel) sc_45
theorem sk_46 : yOk 73 sy_46 := aChk_ok (T := sT_46) hT0 (by decide +kernel) sc_46
theorem sk_47 : yOk 74 sy_47 := aChk_ok (T := sT_47) hT0 (by decide +kernel) sc_47
theorem sk_48 : yOk 75 sy_48 := aChk_ok (T := sT_48) hT0 (by decide +kernel) sc_48
theorem sk_49 : yOk 76 sy_49 := aChk_ok (T := sT_49) hT0 (by decide +kernel) sc_49
theorem sk_50 : yOk 77 sy_50 := aChk_ok (T := sT_50) hT0 (by decide +kernel) sc_50
theorem sk_51 : yOk 79 sy_51 := move_y
theorem sk_52 : yOk 60 sy_52 := aChk_ok (T := sT_52) hT0 (by decide +kernel) sc_52
theorem sk_53 : yOk 54 sy_53 := aChk_ok (T := sT_53) hT0 (by decide +kernel) sc_53
theorem sk_54 : yOk 65 sy_54 := aChk_ok (T := sT_54) hT0 (by decide +kernel) sc_54
theorem sk_55 : yOk 64 sy_55 := aChk_ok (T := sT_55) (hTc sk_54 hT0) (by decide +kernel) sc_55
theorem sk_56 : yOk 66 sy_56 := aChk_ok (T := sT_56) hT0 (by decide +kernel) sc_56
theorem sk_57 : yOk 56 sy_57 := aChk_ok (T := sT_57) (hTc sk_55 (hTc sk_56 hT0)) (by decide +kernel) sc_57
theorem sk_58 : yOk 57 sy_58 := aChk_ok (T := sT_58) (hTc sk_2 (hTc sk_54 (hTc sk_55 hT0))) (by decide +kernel) sc_58
theorem sk_59 : yOk 58 sy_59 := aChk_ok (T := sT_59) (hTc sk_54 (hTc sk_55 hT0)) (by decide +kernel) sc_59
theorem sk_60 : yOk 59 sy_60 := aChk_ok (T := sT_60) (hTc sk_52 (hTc sk_55 (hTc sk_56 hT0))) (by decide +kernel) sc_60
theorem sk_61 : yOk 55 sy_61 := aChk_ok (T := sT_61) (hTc sk_26 (hTc sk_27 (hTc sk_57 (hTc sk_58 (hTc sk_59 (hTc sk_60 hT0)))))) (by decide +kernel) sc_61
theorem sk_62 : yOk 0 sy_62 := aChk_ok (T := sT_62) hT0 (by decide +kernel) sc_62
theorem sk_63 : yOk 1 sy_63 := aChk_ok (T := sT_63) (hTc sk_13 hT0) (by decide +kernel) sc_63
theorem sk_64 : yOk 2 sy_64 := aChk_ok (T := sT_64) hT0 (by decide +kernel) sc_64
theorem sk_65 : yOk 45 sy_65 := aChk_ok (T := sT_65) (hTc sk_1 (hTc sk_4 (hTc sk_9 (hTc sk_39 hT0)))) (by decide +kernel) sc_65
theorem sk_66 : yOk 44 sy_66 := aChk_ok (T := sT_66) (hTc sk_1 (hTc sk_39 (hTc sk_65 hT0))) (by decide +kernel) sc_66
theorem sk_67 : yOk 43 sy_67 := aChk_ok (T := sT_67) (hTc sk_4 (hTc sk_65 (hTc sk_66 hT0))) (by decide +kernel) sc_67
theorem sk_68 : yOk 34 sy_68 := aChk_ok (T := sT_68) (hTc sk_9 (hTc sk_40 hT0)) (by decide +kernel) sc_68
theorem sk_69 : yOk 33 sy_69 := aChk_ok (T := sT_69) (hTc sk_68 hT0) (by decide +kernel) sc_69
theorem sk_70 : yOk 36 sy_70 := aChk_ok (T := sT_70) (hTc sk_11 hT0) (by decide +kernel) sc_70
theorem sk_71 : yOk 3 sy_71 := aChk_ok (T := sT_71) hT0 (by decide +kernel) sc_71
theorem sk_72 : yOk 8 sy_72 := aChk_ok (T := sT_72) hT0 (by decide +kernel) sc_72
theorem sk_73 : yOk 9 sy_73 := aChk_ok (T := sT_73) hT0 (by decide +kernel) sc_73
theorem sk_74 : yOk 6 sy_74 := aChk_ok (T := sT_74) hT0 (by decide +kernel) sc_74
theorem sk_75 : yOk 6 sy_75 := aChk_ok (T := sT_75) (hTc sk_4 (hTc sk_28 (hTc sk_72 (hTc sk_73 (hTc sk_74 hT0))))) (by decide +kernel) sc_75
theorem sk_76 : yOk 6 sy_76 := aChk_ok (T := sT_76) (hTc sk_4 (hTc sk_28 (hTc sk_72 (hTc sk_73 (hTc sk_75 hT0))))) (by decide +kernel) sc_76
theorem sk_77 : yOk 6 sy_77 := aChk_ok (T := sT_77) (hTc sk_4 (hTc sk_28 (hTc sk_72 (hTc sk_73 (hTc sk_76 hT0))))) (by decide +kernel) sc_77
theorem sk_78 : yOk 6 sy_78 := aChk_ok (T := sT_78) (hTc sk_4 (hTc sk_28 (hTc sk_72 (hTc sk_73 (hTc sk_77 hT0))))) (by decide +kernel) sc_78
theorem sk_79 : yOk 6 sy_79 := aChk_ok (T := sT_79) (hTc sk_4 (hTc sk_28 (hTc sk_72 (hTc sk_73 (hTc sk_78 hT0))))) (by decide +kernel) sc_79
theorem sk_80 : yOk 6 sy_80 := aChk_ok (T := sT_80) (hTc sk_4 (hTc sk_28 (hTc sk_72 (hTc sk_73 (hTc sk_79 hT0))))) (by decide +kernel) sc_80
theorem sk_81 : yOk 6 sy_81 := aChk_ok (T := sT_81) (hTc sk_4 (hTc sk_28 (hTc sk_72 (hTc sk_73 (hTc sk_80 hT0))))) (by decide +kernel) sc_81
theorem sk_82 : yOk 6 sy_82 := aChk_ok (T := sT_82) (hTc sk_4 (hTc sk_28 (hTc sk_72 (hTc sk_73 (hTc sk_81 hT0))))) (by decide +kernel) sc_82
theorem sk_83 : yOk 6 sy_83 := aChk_ok (T := sT_83) (hTc sk_4 (hTc sk_28 (hTc sk_72 (hTc sk_73 (hTc sk_82 hT0))))) (by decide +kernel) sc_83
theorem sk_84 : yOk 6 sy_84 := aChk_ok (T := sT_84) (hTc sk_4 (hTc sk_28 (hTc sk_72 (hTc sk_73 (hTc sk_83 hT0))))) (by decide +kernel) sc_84
theorem sk_85 : yOk 6 sy_85 := aChk_ok (T := sT_85) (hTc sk_4 (hTc sk_28 (hTc sk_72 (hTc sk_73 (hTc sk_84 hT0))))) (by decide +kernel) sc_85
theorem sk_86 : yOk 6 sy_86 := aChk_ok (T := sT_86) (hTc sk_4 (hTc sk_28 (hTc sk_72 (hTc sk_73 (hTc sk_85 hT0))))) (by decide +kernel) sc_86
theorem sk_87 : yOk 6 sy_87 := aChk_ok (T := sT_87) (hTc sk_4 (hTc sk_28 (hTc sk_72 (hTc sk_73 (hTc sk_86 hT0))))) (by decide +kernel) sc_87
theorem sk_88 : yOk 4 sy_88 := aChk_ok (T := sT_88) (hTc sk_72 (hTc sk_73 (hTc sk_87 hT0))) (by decide +kernel) sc_88
theorem sk_89 : yOk 5 sy_89 := aChk_ok (T := sT_89) hT0 (by decide +kernel) sc_89
theorem sk_90 : yOk 118 sy_90 := aChk_ok (T := sT_90) (hTc sk_49 hT0) (by decide +kernel) sc_90
theorem sk_91 : yOk 80 sy_91 := aChk_ok (T := sT_91) (hTc sk_47 hT0) (by decide +kernel) sc_91
theorem sk_92 : yOk 81 sy_92 := aChk_ok (T := sT_92) (hTc sk_50 hT0) (by decide +kernel) sc_92
theorem sk_93 : yOk 82 sy_93 := aChk_ok (T := sT_93) (hTc sk_51 hT0) (by decide +kernel) sc_93
theorem sk_94 : yOk 83 sy_94 := aChk_ok (T := sT_94) (hTc sk_48 hT0) (by decide +kernel) sc_94
theorem sk_95 : yOk 84 sy_95 := aChk_ok (T := sT_95) (hTc sk_53 hT0) (by decide +kernel) sc_95
theorem sk_96 : yOk 85 sy_96 := aChk_ok (T := sT_96) (hTc sk_41 (hTc sk_61 (hTc sk_62 hT0))) (by decide +kernel) sc_96
theorem sk_97 : yOk 86 sy_97 := aChk_ok (T := sT_97) hT0 (by decide +kernel) sc_97
theorem sk_98 : yOk 87 sy_98 := aChk_ok (T := sT_98) (hTc sk_64 hT0) (by decide +kernel) sc_98
theorem sk_99 : yOk 88 sy_99 := aChk_ok (T := sT_99) (hTc sk_1 (hTc sk_4 (hTc sk_39 (hTc sk_63 hT0)))) (by decide +kernel) sc_99
theorem sk_100 : yOk 89 sy_100 := aChk_ok (T := sT_100) (hTc sk_1 (hTc sk_3 (hTc sk_63 hT0))) (by decide +kernel) sc_100
theorem sk_101 : yOk 90 sy_101 := aChk_ok (T := sT_101) (hTc sk_4 (hTc sk_5 (hTc sk_9 (hTc sk_20 (hTc sk_63 hT0))))) (by decide +kernel) sc_101
theorem sk_102 : yOk 91 sy_102 := aChk_ok (T := sT_102) (hTc sk_4 (hTc sk_34 (hTc sk_63 hT0))) (by decide +kernel) sc_102
theorem sk_103 : yOk 92 sy_103 := aChk_ok (T := sT_103) (hTc sk_1 (hTc sk_30 (hTc sk_31 hT0))) (by decide +kernel) sc_103
theorem sk_104 : yOk 93 sy_104 := aChk_ok (T := sT_104) (hTc sk_4 (hTc sk_28 hT0)) (by decide +kernel) sc_104
theorem sk_105 : yOk 94 sy_105 := aChk_ok (T := sT_105) (hTc sk_4 (hTc sk_32 hT0)) (by decide +kernel) sc_105
theorem sk_106 : yOk 95 sy_106 := aChk_ok (T := sT_106) (hTc sk_67 hT0) (by decide +kernel) sc_106
theorem sk_107 : yOk 96 sy_107 := aChk_ok (T := sT_107) (hTc sk_4 hT0) (by decide +kernel) sc_107
theorem sk_108 : yOk 97 sy_108 := aChk_ok (T := sT_108) (hTc sk_40 (hTc sk_90 hT0)) (by decide +kernel) sc_108
theorem sk_109 : yOk 98 sy_109 := aChk_ok (T := sT_109) (hTc sk_69 (hTc sk_90 hT0)) (by decide +kernel) sc_109
theorem sk_110 : yOk 99 sy_110 := aChk_ok (T := sT_110) (hTc sk_69 (hTc sk_70 (hTc sk_90 hT0))) (by decide +kernel) sc_110
theorem sk_111 : yOk 100 sy_111 := aChk_ok (T := sT_111) (hTc sk_9 (hTc sk_36 hT0)) (by decide +kernel) sc_111
theorem sk_112 : yOk 101 sy_112 := aChk_ok (T := sT_112) (hTc sk_38 hT0) (by decide +kernel) sc_112
theorem sk_113 : yOk 102 sy_113 := aChk_ok (T := sT_113) (hTc sk_4 (hTc sk_33 (hTc sk_34 hT0))) (by decide +kernel) sc_113
theorem sk_114 : yOk 103 sy_114 := aChk_ok (T := sT_114) (hTc sk_1 (hTc sk_14 (hTc sk_16 (hTc sk_17 (hTc sk_18 hT0))))) (by decide +kernel) sc_114
theorem sk_115 : yOk 104 sy_115 := aChk_ok (T := sT_115) (hTc sk_19 (hTc sk_90 hT0)) (by decide +kernel) sc_115
theorem sk_116 : yOk 105 sy_116 := aChk_ok (T := sT_116) (hTc sk_3 (hTc sk_4 (hTc sk_29 (hTc sk_33 (hTc sk_34 hT0))))) (by decide +kernel) sc_116
theorem sk_117 : yOk 106 sy_117 := aChk_ok (T := sT_117) (hTc sk_42 (hTc sk_43 hT0)) (by decide +kernel) sc_117
theorem sk_118 : yOk 107 sy_118 := aChk_ok (T := sT_118) (hTc sk_44 (hTc sk_45 (hTc sk_62 hT0))) (by decide +kernel) sc_118
theorem sk_119 : yOk 108 sy_119 := aChk_ok (T := sT_119) hT0 (by decide +kernel) sc_119
theorem sk_120 : yOk 109 sy_120 := aChk_ok (T := sT_120) (hTc sk_71 hT0) (by decide +kernel) sc_120
theorem sk_121 : yOk 110 sy_121 := aChk_ok (T := sT_121) (hTc sk_88 hT0) (by decide +kernel) sc_121
theorem sk_122 : yOk 111 sy_122 := aChk_ok (T := sT_122) (hTc sk_89 hT0) (by decide +kernel) sc_122
theorem sk_123 : yOk 112 sy_123 := aChk_ok (T := sT_123) (hTc sk_4 (hTc sk_9 (hTc sk_46 hT0))) (by decide +kernel) sc_123
theorem sk_124 : yOk 113 sy_124 := aChk_ok (T := sT_124) hT0 (by decide +kernel) sc_124
theorem sk_125 : yOk 123 sy_125 := bits_y
theorem sk_126 : yOk 194 sy_126 := div_y
theorem sk_127 : yOk 179 sy_127 := aChk_ok (T := sT_127) hT0 (by decide +kernel) sc_127
theorem sk_128 : yOk 179 sy_128 := aChk_ok (T := sT_128) hT0 (by decide +kernel) sc_128
theorem sk_129 : yOk 179 sy_129 := aChk_ok (T := sT_129) hT0 (by decide +kernel) sc_129
theorem sk_130 : yOk 148 sy_130 := aChk_ok (T := sT_130) hT0 (by decide +kernel) sc_130
theorem sk_131 : yOk 143 sy_131 := aChk_ok (T := sT_131) hT0 (by decide +kernel) sc_131
theorem sk_132 : yOk 143 sy_132 := aChk_ok (T := sT_132) hT0 (by decide +kernel) sc_132
theorem sk_133 : yOk 140 sy_133 := aChk_ok (T := sT_133) hT0 (by decide +kernel) sc_133
theorem sk_134 : yOk 140 sy_134 := aChk_ok (T := sT_134) hT0 (by decide +kernel) sc_134
theorem sk_135 : yOk 140 sy_135 := aChk_ok (T := sT_135) hT0 (by decide +kernel) sc_135
theorem sk_136 : yOk 140 sy_136 := aChk_ok (T := sT_136) hT0 (by decide +kernel) sc_136
theorem sk_137 : yOk 142 sy_137 := aChk_ok (T := sT_137) hT0 (by decide +kernel) sc_137
theorem sk_138 : yOk 142 sy_138 := aChk_ok (T := sT_138) hT0 (by decide +kernel) sc_138
theorem sk_139 : yOk 142 sy_139 := aChk_ok (T := sT_139) hT0 (by decide +kernel) sc_139
theorem sk_140 : yOk 141 sy_140 := aChk_ok (T := sT_140) (hTc sk_133 (hTc sk_134 hT0)) (by decide +kernel) sc_140
theorem sk_141 : yOk 145 sy_141 := aChk_ok (T := sT_141) (hTc sk_132 (hTc sk_135 (hTc sk_136 (hTc sk_137 (hTc sk_138 (hTc sk_139 (hTc sk_140 hT0))))))) (by decide +kernel) sc_141
theorem sk_142 : yOk 155 sy_142 := aChk_ok (T := sT_142) hT0 (by decide +kernel) sc_142
theorem sk_143 : yOk 156 sy_143 := aChk_ok (T := sT_143) hT0 (by decide +kernel) sc_143
theorem sk_144 : yOk 156 sy_144 := aChk_ok (T := sT_144) hT0 (by decide +kernel) sc_144
theorem sk_145 : yOk 167 sy_145 := aChk_ok (T := sT_145) hT0 (by decide +kernel) sc_145
theorem sk_146 : yOk 167 sy_146 := aChk_ok (T := sT_146) hT0 (by decide +kernel) sc_146
theorem sk_147 : yOk 169 sy_147 := aChk_ok (T := sT_147) hT0 (by decide +kernel) sc_147
theorem sk_148 : yOk 171 sy_148 := aChk_ok (T := sT_148) hT0 (by decide +kernel) sc_148
theorem sk_149 : yOk 173 sy_149 := aChk_ok (T := sT_149) (hTc sk_148 hT0) (by decide +kernel) sc_149
theorem sk_150 : yOk 169 sy_150 := aChk_ok (T := sT_150) hT0 (by decide +kernel) sc_150
theorem sk_151 : yOk 171 sy_151 := aChk_ok (T := sT_151) hT0 (by decide +kernel) sc_151
theorem sk_152 : yOk 173 sy_152 := aChk_ok (T := sT_152) (hTc sk_151 hT0) (by decide +kernel) sc_152
theorem sk_153 : yOk 163 sy_153 := aChk_ok (T := sT_153) hT0 (by decide +kernel) sc_153
theorem sk_154 : yOk 164 sy_154 := aChk_ok (T := sT_154) (hTc sk_153 hT0) (by decide +kernel) sc_154
theorem sk_155 : yOk 165 sy_155 := aChk_ok (T := sT_155) (hTc sk_143 (hTc sk_154 hT0)) (by decide +kernel) sc_155
theorem sk_156 : yOk 166 sy_156 := aChk_ok (T := sT_156) (hTc sk_154 hT0) (by decide +kernel) sc_156
theorem sk_157 : yOk 177 sy_157 := aChk_ok (T := sT_157) (hTc sk_154 hT0) (by decide +kernel) sc_157
theorem sk_158 : yOk 180 sy_158 := aChk_ok (T := sT_158) (hTc sk_144 (hTc sk_156 hT0)) (by decide +kernel) sc_158
theorem sk_159 : yOk 182 sy_159 := aChk_ok (T := sT_159) (hTc sk_127 (hTc sk_146 hT0)) (by decide +kernel) sc_159
theorem sk_160 : yOk 182 sy_160 := aChk_ok (T := sT_160) (hTc sk_129 (hTc sk_146 hT0)) (by decide +kernel) sc_160
theorem sk_161 : yOk 181 sy_161 := aChk_ok (T := sT_161) (hTc sk_127 (hTc sk_128 (hTc sk_158 (hTc sk_159 (hTc sk_160 hT0))))) (by decide +kernel) sc_161
theorem sk_162 : yOk 203 sy_162 := aChk_ok (T := sT_162) hT0 (by decide +kernel) sc_162
theorem sk_163 : yOk 197 sy_163 := aChk_ok (T := sT_163) hT0 (by decide +kernel) sc_163
theorem sk_164 : yOk 198 sy_164 := aChk_ok (T := sT_164) hT0 (by decide +kernel) sc_164
theorem sk_165 : yOk 209 sy_165 := aChk_ok (T := sT_165) hT0 (by decide +kernel) sc_165
theorem sk_166 : yOk 210 sy_166 := aChk_ok (T := sT_166) (hTc sk_155 (hTc sk_165 hT0)) (by decide +kernel) sc_166
theorem sk_167 : yOk 211 sy_167 := aChk_ok (T := sT_167) (hTc sk_155 hT0) (by decide +kernel) sc_167
theorem sk_168 : yOk 212 sy_168 := aChk_ok (T := sT_168) (hTc sk_167 hT0) (by decide +kernel) sc_168
theorem sk_169 : yOk 185 sy_169 := aChk_ok (T := sT_169) hT0 (by decide +kernel) sc_169
theorem sk_170 : yOk 188 sy_170 := aChk_ok (T := sT_170) (hTc sk_125 (hTc sk_169 hT0)) (by decide +kernel) sc_170
theorem sk_171 : yOk 185 sy_171 := aChk_ok (T := sT_171) (hTc sk_154 hT0) (by decide +kernel) sc_171
theorem sk_172 : yOk 188 sy_172 := aChk_ok (T := sT_172) (hTc sk_125 (hTc sk_171 hT0)) (by decide +kernel) sc_172
theorem sk_173 : yOk 185 sy_173 := aChk_ok (T := sT_173) (hTc sk_154 hT0) (by decide +kernel) sc_173
theorem sk_174 : yOk 188 sy_174 := aChk_ok (T := sT_174) (hTc sk_125 (hTc sk_173 hT0)) (by decide +kernel) sc_174
theorem sk_175 : yOk 185 sy_175 := aChk_ok (T := sT_175) (hTc sk_154 hT0) (by decide +kernel) sc_175
theorem sk_176 : yOk 188 sy_176 := aChk_ok (T := sT_176) (hTc sk_125 (hTc sk_175 hT0)) (by decide +kernel) sc_176
theorem sk_177 : yOk 185 sy_177 := aChk_ok (T := sT_177) (hTc sk_154 hT0) (by decide +kernel) sc_177
theorem sk_178 : yOk 188 sy_178 := aChk_ok (T := sT_178) (hTc sk_125 (hTc sk_177 hT0)) (by decide +kernel) sc_178
theorem sk_179 : yOk 130 sy_179 := aChk_ok (T := sT_179) hT0 (by decide +kernel) sc_179
theorem sk_180 : yOk 131 sy_180 := aChk_ok (T := sT_180) hT0 (by decide +kernel) sc_180
theorem sk_181 : yOk 133 sy_181 := copyB_y
theorem sk_182 : yOk 134 sy_182 := aChk_ok (T := sT_182) hT0 (by decide +kernel) sc_182
theorem sk_183 : yOk 135 sy_183 := aChk_ok (T := sT_183) hT0 (by decide +kernel) sc_183
theorem sk_184 : yOk 146 sy_184 := aChk_ok (T := sT_184) (hTc sk_141 (hTc sk_142 hT0)) (by decide +kernel) sc_184
theorem sk_185 : yOk 147 sy_185 := aChk_ok (T := sT_185) hT0 (by decide +kernel) sc_185
theorem sk_186 : yOk 149 sy_186 := aChk_ok (T := sT_186) hT0 (by decide +kernel) sc_186
theorem sk_187 : yOk 168 sy_187 := aChk_ok (T := sT_187) (hTc sk_130 (hTc sk_143 (hTc sk_145 hT0))) (by decide +kernel) sc_187
theorem sk_188 : yOk 170 sy_188 := aChk_ok (T := sT_188) (hTc sk_130 (hTc sk_147 hT0)) (by decide +kernel) sc_188
theorem sk_189 : yOk 172 sy_189 := aChk_ok (T := sT_189) (hTc sk_130 (hTc sk_148 hT0)) (by decide +kernel) sc_189
theorem sk_190 : yOk 174 sy_190 := aChk_ok (T := sT_190) (hTc sk_130 (hTc sk_143 (hTc sk_149 hT0))) (by decide +kernel) sc_190
theorem sk_191 : yOk 175 sy_191 := aChk_ok (T := sT_191) hT0 (by decide +kernel) sc_191
theorem sk_192 : yOk 176 sy_192 := aChk_ok (T := sT_192) (hTc sk_155 hT0) (by decide +kernel) sc_192
theorem sk_193 : yOk 178 sy_193 := aChk_ok (T := sT_193) (hTc sk_143 (hTc sk_157 hT0)) (by decide +kernel) sc_193
theorem sk_194 : yOk 183 sy_194 := aChk_ok (T := sT_194) (hTc sk_161 hT0) (by decide +kernel) sc_194
theorem sk_195 : yOk 184 sy_195 := aChk_ok (T := sT_195) (hTc sk_143 (hTc sk_156 hT0)) (by decide +kernel) sc_195
theorem sk_196 : yOk 187 sy_196 := aChk_ok (T := sT_196) (hTc sk_169 hT0) (by decide +kernel) sc_196
theorem sk_197 : yOk 187 sy_197 := aChk_ok (T := sT_197) (hTc sk_171 hT0) (by decide +kernel) sc_197
theorem sk_198 : yOk 187 sy_198 := aChk_ok (T := sT_198) (hTc sk_173 hT0) (by decide +kernel) sc_198
theorem sk_199 : yOk 187 sy_199 := aChk_ok (T := sT_199) (hTc sk_175 hT0) (by decide +kernel) sc_199
theorem sk_200 : yOk 187 sy_200 := aChk_ok (T := sT_200) (hTc sk_177 hT0) (by decide +kernel) sc_200
theorem sk_201 : yOk 189 sy_201 := aChk_ok (T := sT_201) (hTc sk_170 hT0) (by decide +kernel) sc_201
theorem sk_202 : yOk 189 sy_202 := aChk_ok (T := sT_202) (hTc sk_172 hT0) (by decide +kernel) sc_202
theorem sk_203 : yOk 189 sy_203 := aChk_ok (T := sT_203) (hTc sk_174 hT0) (by decide +kernel) sc_203
theorem sk_204 : yOk 189 sy_204 := aChk_ok (T := sT_204) (hTc sk_176 hT0) (by decide +kernel) sc_204
theorem sk_205 : yOk 189 sy_205 := aChk_ok (T := sT_205) (hTc sk_178 hT0) (by decide +kernel) sc_205
theorem sk_206 : yOk 190 sy_206 := aChk_ok (T := sT_206) (hTc sk_170 hT0) (by decide +kernel) sc_206
theorem sk_207 : yOk 190 sy_207 := aChk_ok (T := sT_207) (hTc sk_172 hT0) (by decide +kernel) sc_207
theorem sk_208 : yOk 190 sy_208 := aChk_ok (T := sT_208) (hTc sk_174 hT0) (by decide +kernel) sc_208
theorem sk_209 : yOk 190 sy_209 := aChk_ok (T := sT_209) (hTc sk_176 hT0) (by decide +kernel) sc_209
theorem sk_210 : yOk 190 sy_210 := aChk_ok (T := sT_210) (hTc sk_178 hT0) (by decide +kernel) sc_210
theorem sk_211 : yOk 191 sy_211 := aChk_ok (T := sT_211) (hTc sk_125 hT0) (by decide +kernel) sc_211
theorem sk_212 : yOk 192 sy_212 := aChk_ok (T := sT_212) (hTc sk_155 hT0) (by decide +kernel) sc_212
theorem sk_213 : yOk 193 sy_213 := aChk_ok (T := sT_213) (hTc sk_127 (hTc sk_144 (hTc sk_152 (hTc sk_156 hT0)))) (by decide +kernel) sc_213
theorem sk_214 : yOk 195 sy_214 := aChk_ok (T := sT_214) (hTc sk_126 hT0) (by decide +kernel) sc_214
abbrev qT : List (Nat × aY) := [(194, sy_126)]
theorem qc0 : (let m := aMkL (aPre sy_215.1 ++ List.replicate (zx zm_196 - (aPre sy_215.1).length) none) (aMkM sy_215.2.1 aX0); ana qT inlL sy_215.2.2.2.1 sy_215.2.2.2.2 [(145, [(q145, [], [], 0)])] sy_215.2.2.1 none 400 false (m.1, [(196, 0, m.2, [])])) = true := by decide +kernel
theorem qc1 : (let m := aMkL q243 (aMkM [] aX0); ana qT inlL sy_215.2.2.2.1 sy_215.2.2.2.2 [] sy_215.2.2.1 none 60 true (m.1, [(196, 243, m.2, [])])) = true := by decide +kernel
theorem sk_215 : yOk 196 sy_215 := by
  have hT : ∀ e ∈ qT, yOk e.1 e.2 := hTc sk_126 hT0
  intro as h0 ht0 hps hm
  refine aEnt_ok (T := qT) (inl := inlL) (M := 196) (y := sy_215) (fuel := 400) (hs := [(145, [(q145, [], [], 0)])]) hT (by decide) (show zP[196]? = some zm_196 from rfl) qc0 as h0 ht0 hps hm (fun pc invs v L h hz hv hl hmo ht hw => ?_)
  have h1 := zFind_mem hz
  rw [List.mem_singleton] at h1
  cases h1
  rw [List.mem_singleton] at hv
  subst hv
  refine quar_mid 2 h _ L hl (fun L' hl' => ?_)
  exact aHd_ok (T := qT) (inl := inlL) (W := sy_215.2.2.2.1) (D := sy_215.2.2.2.2) (outs := sy_215.2.2.1) (fuel := 60) (hs := []) (v := (q243, [], [], 0)) hT (by decide) qc1 L' h hl' (fun e he => by cases he) ht hw (fun pc invs v L h hz => by cases hz)
theorem sk_216 : yOk 199 sy_216 := aChk_ok (T := sT_216) (hTc sk_127 (hTc sk_144 (hTc sk_150 (hTc sk_152 (hTc sk_156 hT0))))) (by decide +kernel) sc_216
theorem sk_217 : yOk 200 sy_217 := aChk_ok (T := sT_217) hT0 (by decide +kernel) sc_217
theorem sk_218 : yOk 201 sy_218 := aChk_ok (T := sT_218) (hTc sk_142 hT0) (by decide +kernel) sc_218
theorem sk_219 : yOk 202 sy_219 := aChk_ok (T := sT_219) hT0 (by decide +kernel) sc_219
theorem sk_220 : yOk 204 sy_220 := aChk_ok (T := sT_220) (hTc sk_162 hT0) (by decide +kernel) sc_220
theorem sk_221 : yOk 213 sy_221 := aChk_ok (T := sT_221) (hTc sk_165 (hTc sk_166 (hTc sk_167 (hTc sk_168 hT0)))) (by decide +kernel) sc_221
theorem sk_222 : yOk 214 sy_222 := aChk_ok (T := sT_222) hT0 (by decide +kernel) sc_222
theorem sk_223 : yOk 215 sy_223 := aChk_ok (T := sT_223) (hTc sk_125 (hTc sk_143 hT0)) (by decide +kernel) sc_223
theorem sk_224 : yOk 127 sy_224 := aChk_ok (T := sT_224) hT0 (by decide +kernel) sc_224

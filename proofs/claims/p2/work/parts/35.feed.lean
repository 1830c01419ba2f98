/-! feed: what it answers, by the number of letters that are there -/
def fdA (lo : Int) (m : Nat) : Int := bif lo == 0 then (bif Nat.blt m 120 then (m : Int) + 1 else -1000003) else -1000001
def fdN (lo : Int) (m : Nat) : Int := bif lo == 0 && Nat.blt m 120 then (m : Int) + 1 else (m : Int)
def fdY (q c s t : Nat) (r : Int × Int) (m : Nat) : aY := ([.inr q, .inl (false, r.1, r.2, false)], [(c, s, (m : Int), (m : Int))], [(some (false, fdA r.1 m, fdA r.1 m, false), [(c, s, fdN r.1 m, fdN r.1 m)])], [(c, s, s), (t, 0, 120)], 1)
abbrev fdR : List (Int × Int) := [(iMin, -1), (0, 255), (256, iMax)]
theorem fc_a : ((List.range 121).all fun m => fdR.all fun r => aChk [] (54 :: inlL) 84 (fdY 0 13 1 14 r m) [] 60) = true := by decide +kernel
theorem fc_b : ((List.range 121).all fun m => fdR.all fun r => aChk [] inlL 135 (fdY 58 58 5 62 r m) [] 60) = true := by decide +kernel
theorem fk_a (m : Nat) (hm : m < 121) (r : Int × Int) (hr : r ∈ fdR) : yOk 84 (fdY 0 13 1 14 r m) := aChk_ok (T := []) hT0 (by decide) (List.all_eq_true.mp (List.all_eq_true.mp fc_a m (List.mem_range.mpr hm)) r hr)
theorem fk_b (m : Nat) (hm : m < 121) (r : Int × Int) (hr : r ∈ fdR) : yOk 135 (fdY 58 58 5 62 r m) := aChk_ok (T := []) hT0 (by decide) (List.all_eq_true.mp (List.all_eq_true.mp fc_b m (List.mem_range.mpr hm)) r hr)
theorem fd_r (u : Int32) : ∃ r ∈ fdR, r.1 ≤ u.toInt ∧ u.toInt ≤ r.2 := by
  have b := rOk_i.mp (rIn_i u)
  by_cases h1 : u.toInt < 0
  · exact ⟨_, List.mem_cons_self, b.1, by show u.toInt ≤ -1; omega⟩
  · by_cases h2 : u.toInt ≤ 255
    · exact ⟨_, List.mem_cons_of_mem _ List.mem_cons_self, by show (0 : Int) ≤ _; omega, h2⟩
    · exact ⟨_, List.mem_cons_of_mem _ (List.mem_cons_of_mem _ List.mem_cons_self), by show (256 : Int) ≤ _; omega, b.2⟩

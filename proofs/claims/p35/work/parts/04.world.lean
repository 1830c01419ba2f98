/-! the cells of the machine that hold what the pure machine says -/
def zcv (adr : Nat → Nat) : Value → Value
  | .ref k => .ref (adr k)
  | v => v
theorem zcv_cat (adr : Nat → Nat) (v : Value) : (zcv adr v).category = v.category := by cases v <;> rfl
theorem zcv_sum (adr : Nat → Nat) (S : List Value) : ((S.map (zcv adr)).map fun v => v.category).sum = zCat S := by
  unfold zCat
  rw [List.map_map]
  congr 1
  exact List.map_congr_left fun v _ => zcv_cat adr v
def zcE (adr : Nat → Nat) (tC : Nat → ClassId) (h : zH) (k : Nat) : zL → va_E
  | .inl (c, fs) => .inr (c, fs.mapIdx fun j f => match f with
    | none => .int (h.1 k j)
    | some q => .ref (adr q))
  | .inr (.inl n) => .inl (tC 0, n, .inl (h.1 k))
  | .inr (.inr (.inl n)) => .inl (tC 1, n, .inr (.inl (h.2 k)))
  | .inr (.inr (.inr (t, ks))) => .inl (tC t, ks.length, .inr (.inr (.inr (.inr fun j => (ks[j]?).map adr))))
def zW (adr : Nat → Nat) (tC : Nat → ClassId) (h : zH) : va_W := lay.mapIdx fun k c => (adr k, zcE adr tC h k c)
def zInj (adr : Nat → Nat) : Prop := ∀ i j : Nat, i < lay.length → j < lay.length → adr i = adr j → i = j
def zA (adr : Nat → Nat) : Nat → Prop := fun q => ∃ k : Nat, k < lay.length ∧ q = adr k
abbrev zTy (tC : Nat → ClassId) : List (ClassId × FieldType) := [(tC 0, .int), (tC 1, .long), (tC 2, .object "MapItch$County"), (tC 3, .array .int)]
section ZW
variable {adr : Nat → Nat} {tC : Nat → ClassId} {h h' : zH} {A : Nat → Prop} {k : Nat} {c : zL} {e : va_E}
theorem zW_at (hk : lay[k]? = some c) : (zW adr tC h)[k]? = some (adr k, zcE adr tC h k c) := by
  unfold zW
  rw [List.getElem?_mapIdx, hk]
  rfl
theorem zW_of {j : Nat} {q : Nat × va_E} (hj : (zW adr tC h)[j]? = some q) : j < lay.length ∧ q.1 = adr j := by
  unfold zW at hj
  rw [List.getElem?_mapIdx] at hj
  cases hl : lay[j]? with
  | none => rw [hl] at hj; cases hj
  | some z =>
    rw [hl] at hj
    cases hj
    exact ⟨(List.getElem?_eq_some_iff.mp hl).1, rfl⟩
theorem zW_set (hk : lay[k]? = some c) (he : zcE adr tC h' k c = e) (ho : ∀ (j : Nat) (z : zL), j ≠ k → zcE adr tC h' j z = zcE adr tC h j z) : (zW adr tC h).set k (adr k, e) = zW adr tC h' := by
  apply List.ext_getElem?
  intro j
  rw [List.getElem?_set]
  by_cases hj : k = j
  · subst hj
    rw [if_pos rfl, zW_at hk, he]
    have hl : k < (zW adr tC h).length := by unfold zW; rw [List.length_mapIdx]; exact (List.getElem?_eq_some_iff.mp hk).1
    rw [if_pos hl]
  · rw [if_neg hj]
    unfold zW
    rw [List.getElem?_mapIdx, List.getElem?_mapIdx]
    cases lay[j]? with
    | none => rfl
    | some z =>
      show some (adr j, zcE adr tC h j z) = some (adr j, zcE adr tC h' j z)
      rw [ho j z (fun q => hj q.symm)]
theorem zW_D (hi : zInj adr) (hA : ∀ k, k < lay.length → A (adr k)) : va_D A (zW adr tC h) := by
  refine ⟨fun i j x y hx hy hxy => ?_, fun j x hx => ?_⟩
  · obtain ⟨h1, h2⟩ := zW_of hx
    obtain ⟨h3, h4⟩ := zW_of hy
    exact hi i j h1 h3 (by rw [← h2, ← h4]; exact hxy)
  · obtain ⟨h1, h2⟩ := zW_of hx
    rw [h2]
    exact hA j h1
theorem zcE_set {q j : Nat} {x : Int32} (i : Nat) (z : zL) (hi : i ≠ q) : zcE adr tC (zSet h q j x) i z = zcE adr tC h i z := by
  have e : (zSet h q j x).1 i = h.1 i := by simp [zSet, va_up, hi]
  rcases z with ⟨c, fs⟩ | n | n | ⟨t, ks⟩
  · simp only [zcE, e]
  · simp only [zcE, e]
  · simp only [zcE, zSet]
  · simp only [zcE]
end ZW
/-! locals -/
def zAs (adr : Nat → Nat) (L : zLo) : List (Nat × Value) := (List.range L.length).filterMap fun i => match L[i]? with
  | some (some v) => some (i, zcv adr v)
  | _ => none
theorem zAs_mem {adr : Nat → Nat} {L : zLo} {q : Nat × Value} (h : q ∈ zAs adr L) : ∃ v, L[q.1]? = some (some v) ∧ q.2 = zcv adr v := by
  obtain ⟨i, hi, hq⟩ := List.mem_filterMap.mp h
  split at hq
  · rename_i v hv
    cases hq
    exact ⟨v, hv, rfl⟩
  · cases hq
theorem zAs_in {adr : Nat → Nat} {L : zLo} {i : Nat} {v : Value} (h : L[i]? = some (some v)) : (i, zcv adr v) ∈ zAs adr L := by
  refine List.mem_filterMap.mpr ⟨i, List.mem_range.mpr (List.getElem?_eq_some_iff.mp h).1, ?_⟩
  rw [h]
def zR (ls : Array Slot) (nL : Nat) (adr : Nat → Nat) (L : zLo) : Prop := L.length = nL ∧ lv_has ls nL (zAs adr L)
theorem zR_at {ls : Array Slot} {nL : Nat} {adr : Nat → Nat} {L : zLo} (h : zR ls nL adr L) {i : Nat} {v : Value} (hv : L[i]? = some (some v)) : ls[i]? = some (.val (zcv adr v)) := h.2.2.2 _ (zAs_in hv)
theorem zSt1_len (L : zLo) (k : Nat) (v : Value) : (zSt1 L k v).length = L.length := by
  unfold zSt1
  split
  · simp
  · split <;> simp
theorem zSt1_at {L : zLo} {k j : Nat} {v w : Value} (hk : k < L.length) (h : (zSt1 L k v)[j]? = some (some w)) : (j = k ∧ w = v) ∨ (j ≠ k ∧ L[j]? = some (some w) ∧ ¬ (j + 1 = k ∧ w.category = 2)) := by
  by_cases hj : j = k
  · subst hj
    left
    refine ⟨rfl, ?_⟩
    unfold zSt1 at h
    split at h
    · simp [List.getElem?_set, hk] at h; exact h.symm
    · split at h
      · simp [List.getElem?_set, hk] at h; exact h.symm
      · simp [List.getElem?_set, hk] at h; exact h.symm
      · simp [List.getElem?_set, hk] at h; exact h.symm
  · right
    refine ⟨hj, ?_⟩
    have hj' : ¬ k = j := fun q => hj q.symm
    unfold zSt1 at h
    split at h
    · simp [List.getElem?_set, hj'] at h
      exact ⟨h, fun q => by omega⟩
    · rename_i i
      split at h
      · rw [List.getElem?_set, if_neg hj', List.getElem?_set] at h
        by_cases hi : i = j
        · rw [if_pos hi] at h
          split at h <;> simp at h
        · rw [if_neg hi] at h
          exact ⟨h, fun q => hi (by omega)⟩
      · rw [List.getElem?_set, if_neg hj', List.getElem?_set] at h
        by_cases hi : i = j
        · rw [if_pos hi] at h
          split at h <;> simp at h
        · rw [if_neg hi] at h
          exact ⟨h, fun q => hi (by omega)⟩
      · rename_i n1 n2
        rw [List.getElem?_set, if_neg hj'] at h
        refine ⟨h, fun q => ?_⟩
        have hi : i = j := by omega
        subst hi
        cases w with
        | long x => exact n1 x h
        | double x => exact n2 x h
        | _ => exact absurd q.2 (by simp [Value.category])
theorem zR_st1 {ls' : Array Slot} {nL : Nat} {adr : Nat → Nat} {L : zLo} {k : Nat} {v : Value} (hn : L.length = nL) (hk : k < nL) (h : lv_has ls' nL ((k, zcv adr v) :: (zAs adr L).filter (fun q => !(q.1 == k) && !(q.1 + 1 == k && q.2.category == 2)))) : zR ls' nL adr (zSt1 L k v) := by
  refine ⟨(zSt1_len L k v).trans hn, h.1, h.2.1, fun q hq => ?_⟩
  obtain ⟨w, hw, e⟩ := zAs_mem hq
  rcases zSt1_at (by omega) hw with ⟨h1, h2⟩ | ⟨h1, h2, h3⟩
  · rw [h1, e, h2]
    exact h.2.2 _ List.mem_cons_self
  · refine h.2.2 q (List.mem_cons_of_mem _ (List.mem_filter.mpr ⟨?_, ?_⟩))
    · have := zAs_in (adr := adr) h2
      rw [← e] at this
      exact this
    · rw [e, zcv_cat]
      have a1 : (q.1 == k) = false := beq_eq_false_iff_ne.mpr h1
      rw [a1]
      cases b : (q.1 + 1 == k && w.category == 2) with
      | false => rfl
      | true =>
        simp only [Bool.and_eq_true, beq_iff_eq] at b
        exact absurd b h3
theorem zR_st2 {ls' : Array Slot} {nL : Nat} {adr : Nat → Nat} {L : zLo} {k : Nat} {v : Value} (hn : L.length = nL) (hk : k + 1 < nL) (h : lv_has ls' nL ((k, zcv adr v) :: (zAs adr L).filter (fun q => !(q.1 == k) && (!(q.1 == k + 1) && !(q.1 + 1 == k && q.2.category == 2))))) : zR ls' nL adr (zSt2 L k v) := by
  refine ⟨by unfold zSt2; rw [List.length_set]; exact (zSt1_len L k v).trans hn, h.1, h.2.1, fun q hq => ?_⟩
  obtain ⟨w, hw, e⟩ := zAs_mem hq
  unfold zSt2 at hw
  rw [List.getElem?_set] at hw
  by_cases hq1 : k + 1 = q.1
  · rw [if_pos hq1] at hw
    split at hw <;> simp at hw
  · rw [if_neg hq1] at hw
    rcases zSt1_at (by omega) hw with ⟨h1, h2⟩ | ⟨h1, h2, h3⟩
    · rw [h1, e, h2]
      exact h.2.2 _ List.mem_cons_self
    · refine h.2.2 q (List.mem_cons_of_mem _ (List.mem_filter.mpr ⟨?_, ?_⟩))
      · have := zAs_in (adr := adr) h2
        rw [← e] at this
        exact this
      · rw [e, zcv_cat]
        have a1 : (q.1 == k) = false := beq_eq_false_iff_ne.mpr h1
        have a2 : (q.1 == k + 1) = false := beq_eq_false_iff_ne.mpr (fun z => hq1 z.symm)
        rw [a1, a2]
        cases b : (q.1 + 1 == k && w.category == 2) with
        | false => rfl
        | true =>
          simp only [Bool.and_eq_true, beq_iff_eq] at b
          exact absurd b h3

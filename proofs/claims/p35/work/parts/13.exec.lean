/-! runs, by any fuel -/
def zExec (E : zSc) (o : Nat) (K : List (Nat × Instr)) (ret : Option FieldType) : Nat → Nat → Nat → zLo → List Value → zH → Option (Option Value × zH)
  | 0, _, _, _, _, _ => none
  | n + 1, d, pc, L, S, h => match zFind pc K with
    | none => none
    | some i => match zRet ret i S with
      | some rv => some (rv, h)
      | none => match zOne E (zSub n d) o pc i L S h with
        | none => none
        | some (pc', L', S', h') => zExec E o K ret n d pc' L' S' h'
theorem zRun_eq {M : Nat} {x : zE} (hM : zP[M]? = some x) : ∀ (n d pc : Nat) (L : zLo) (S : List Value) (h : zH), zRun n d M pc L S h = zExec none (zo x) (zk x) (zr x) n d pc L S h
  | 0, d, pc, L, S, h => by unfold zRun zExec; rfl
  | n + 1, d, pc, L, S, h => by
    unfold zRun zExec
    rw [hM]
    dsimp only
    cases hf : zFind pc (zk x) with
    | none => rfl
    | some i =>
      dsimp only
      cases hr : zRet (zr x) i S with
      | some rv => rfl
      | none =>
        dsimp only
        cases d with
        | zero =>
          dsimp only [zSub]
          cases ho : zOne none (fun _ _ _ => none) (zo x) pc i L S h with
          | none => rfl
          | some q => exact zRun_eq hM n 0 _ _ _ _
        | succ d =>
          dsimp only [zSub]
          cases ho : zOne none (fun M' L' h' => zRun n d M' 0 L' [] h') (zo x) pc i L S h with
          | none => rfl
          | some q => exact zRun_eq hM n (d + 1) _ _ _ _
/-- more from the callees: the same, and more -/
theorem zCallK_mono {r1 r2 : Nat → zLo → zH → Option (Option Value × zH)} (h12 : ∀ M L h out, r1 M L h = some out → r2 M L h = some out) {o : Nat} {v : Bool} {k : Nat} {S : List Value} {h : zH} {r : List Value × zH} (hi : zCallK r1 o v k S h = some r) : zCallK r2 o v k S h = some r := by
  unfold zCallK at hi ⊢
  split at hi
  · cases hi
  · rename_i M st w hf
    cases hb : (st == v) with
    | true => rw [hb] at hi; cases hi
    | false =>
      rw [hb] at hi
      dsimp only [cond] at hi ⊢
      split at hi
      · cases hi
      · rename_i x hM
        split at hi
        · cases hi
        · rename_i hc
          split at hi
          · cases hi
          · rename_i rv h' hr
            cases hi
            rw [if_neg hc, h12 _ _ _ _ hr]
theorem zOne_mono {r1 r2 : Nat → zLo → zH → Option (Option Value × zH)} (h12 : ∀ M L h out, r1 M L h = some out → r2 M L h = some out) {E : zSc} {o pc : Nat} {i : Instr} {L : zLo} {S : List Value} {h : zH} {q : Nat × zF} (hi : zOne E r1 o pc i L S h = some q) : zOne E r2 o pc i L S h = some q := by
  unfold zOne at hi ⊢
  split at hi
  · split at hi
    · exact hi
    · split at hi
      · rename_i r hr
        cases hi
        rw [zCallK_mono h12 hr]
      · cases hi
  · split at hi
    · rename_i r hr
      cases hi
      rw [zCallK_mono h12 hr]
    · cases hi
  · exact hi
theorem zRun_mono : ∀ (n d M pc : Nat) (L : zLo) (S : List Value) (h : zH) (out : Option Value × zH), zRun n d M pc L S h = some out → zRun (n + 1) d M pc L S h = some out
  | 0, d, M, pc, L, S, h, out, hz => by unfold zRun at hz; cases hz
  | n + 1, d, M, pc, L, S, h, out, hz => by
    unfold zRun at hz ⊢
    cases hM : zP[M]? with
    | none => rw [hM] at hz; cases hz
    | some x =>
      rw [hM] at hz
      dsimp only at hz ⊢
      cases hf : zFind pc (zk x) with
      | none => rw [hf] at hz; cases hz
      | some i =>
        rw [hf] at hz
        dsimp only at hz ⊢
        cases hr : zRet (zr x) i S with
        | some rv => rw [hr] at hz; exact hz
        | none =>
          rw [hr] at hz
          dsimp only at hz ⊢
          split at hz
          · cases hz
          · rename_i pc' L' S' h' ho
            rw [zOne_mono (fun M L h out hr => ?_) ho]
            · exact zRun_mono n d M pc' L' S' h' out hz
            · cases d with
              | zero => cases hr
              | succ d => exact zRun_mono n d M 0 L [] h out hr
theorem zRun_le {n n' d M pc : Nat} {L : zLo} {S : List Value} {h : zH} {out : Option Value × zH} (hn : n ≤ n') (hz : zRun n d M pc L S h = some out) : zRun n' d M pc L S h = some out := by
  obtain ⟨k, rfl⟩ := Nat.le.dest hn
  induction k with
  | zero => exact hz
  | succ k ih => exact zRun_mono _ _ _ _ _ _ _ _ (ih (Nat.le_add_right _ _))
theorem zSub_le {n n' d M : Nat} (hn : n ≤ n') {L : zLo} {h : zH} {out : Option Value × zH} (hz : zSub n d M L h = some out) : zSub n' d M L h = some out := by
  cases d with
  | zero => cases hz
  | succ d => exact zRun_le hn hz
theorem zExec_le {E : zSc} {o : Nat} {K : List (Nat × Instr)} {ret : Option FieldType} : ∀ {n n' d pc : Nat} {L : zLo} {S : List Value} {h : zH} {out : Option Value × zH}, n ≤ n' → zExec E o K ret n d pc L S h = some out → zExec E o K ret n' d pc L S h = some out
  | 0, n', d, pc, L, S, h, out, hn, hz => by unfold zExec at hz; cases hz
  | n + 1, 0, d, pc, L, S, h, out, hn, hz => absurd hn (by omega)
  | n + 1, n' + 1, d, pc, L, S, h, out, hn, hz => by
    unfold zExec at hz ⊢
    cases hf : zFind pc K with
    | none => rw [hf] at hz; cases hz
    | some i =>
      rw [hf] at hz
      dsimp only at hz ⊢
      cases hr : zRet ret i S with
      | some rv => rw [hr] at hz; exact hz
      | none =>
        rw [hr] at hz
        dsimp only at hz ⊢
        split at hz
        · cases hz
        · rename_i pc' L' S' h' ho
          rw [zOne_mono (fun M L h out hr => zSub_le (Nat.le_of_succ_le_succ hn) hr) ho]
          exact zExec_le (Nat.le_of_succ_le_succ hn) hz
/-- the code from pc on comes to an end, which Q holds of -/
def zw (E : zSc) (o : Nat) (K : List (Nat × Instr)) (ret : Option FieldType) (d pc : Nat) (L : zLo) (S : List Value) (h : zH) (Q : Option Value → zH → Prop) : Prop :=
  ∃ (n : Nat) (rv : Option Value) (h' : zH), zExec E o K ret n d pc L S h = some (rv, h') ∧ Q rv h'
/-- a method: called at depth d with these, it comes to an end which Q holds of -/
def zm (d M : Nat) (as : List Value) (h : zH) (Q : Option Value → zH → Prop) : Prop :=
  ∃ (n : Nat) (rv : Option Value) (h' : zH), (match zP[M]? with
    | some x => zRun n d M 0 (zEnt as (zx x)) [] h
    | none => none) = some (rv, h') ∧ Q rv h'
section ZX
variable {E : zSc} {o : Nat} {K : List (Nat × Instr)} {ret : Option FieldType} {d pc : Nat} {L : zLo} {S : List Value} {h : zH} {Q Q' : Option Value → zH → Prop}
theorem zw_imp (hw : zw E o K ret d pc L S h Q) (hq : ∀ rv h', Q rv h' → Q' rv h') : zw E o K ret d pc L S h Q' := by
  obtain ⟨n, rv, h', h1, h2⟩ := hw
  exact ⟨n, rv, h', h1, hq _ _ h2⟩
theorem zm_imp {M : Nat} {as : List Value} (hw : zm d M as h Q) (hq : ∀ rv h', Q rv h' → Q' rv h') : zm d M as h Q' := by
  obtain ⟨n, rv, h', h1, h2⟩ := hw
  exact ⟨n, rv, h', h1, hq _ _ h2⟩
theorem zm_of {M : Nat} {x : zE} {as : List Value} (hM : zP[M]? = some x) (hw : zw none (zo x) (zk x) (zr x) d 0 (zEnt as (zx x)) [] h Q) : zm d M as h Q := by
  obtain ⟨n, rv, h', h1, h2⟩ := hw
  refine ⟨n, rv, h', ?_, h2⟩
  rw [hM]
  show zRun n d M 0 (zEnt as (zx x)) [] h = _
  rw [zRun_eq hM]
  exact h1
theorem zw_ret {i : Instr} {rv : Option Value} (hf : zFind pc K = some i) (hr : zRet ret i S = some rv) (hq : Q rv h) : zw E o K ret d pc L S h Q := by
  refine ⟨1, rv, h, ?_, hq⟩
  unfold zExec
  rw [hf]
  dsimp only
  rw [hr]
theorem zw_one {i : Instr} {pc' : Nat} {f : zF} (hf : zFind pc K = some i) (hr : zRet ret i S = none) (hs : zS E o pc i L S h = some (pc', f)) (hc : ∀ rec, zOne E rec o pc i L S h = zS E o pc i L S h) (hw : zw E o K ret d pc' f.1 f.2.1 f.2.2 Q) : zw E o K ret d pc L S h Q := by
  obtain ⟨n, rv, h', h1, h2⟩ := hw
  refine ⟨n + 1, rv, h', ?_, h2⟩
  unfold zExec
  rw [hf]
  dsimp only
  rw [hr]
  dsimp only
  rw [hc, hs]
  exact h1
end ZX

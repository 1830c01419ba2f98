/-! calls: a run of the pure machine is a contract -/
def zrm (d : Nat) : Room := { frames := d + 1, cells := 0, slots := 0, locals := 64 * (d + 1) }
def zws (e : zE) : List Cond := Cond.code (zy e) (zb e) (zx e) (zr e) :: zTb
def zPre (D : va_G) (tC : Nat → ClassId) (adr : Nat → Nat) (as : List Value) (h : zH) : Array Value → State → Prop := va_Pc (as.map (zcv adr)) (fun U => va_P D vwCl (zW adr tC h) U.heap ∧ va_K D vwCl (zTy tC) U ∧ zStat adr (zA adr) U U.heap)
def zPost (D : va_G) (tC : Nat → ClassId) (adr : Nat → Nat) (rv : Option Value) (h' : zH) : Array Value → State → Outcome → State → Prop := fun _ st oc t => (oc = .returned (rv.map (zcv adr)) ∧ va_P D vwCl (zW adr tC h') t.heap) ∧ va_F (zA adr) st t
def zMet (l : Launch) (D : va_G) (tC : Nat → ClassId) (adr : Nat → Nat) (d : Nat) (e : zE) (as : List Value) (h : zH) (rv : Option Value) (h' : zH) : Prop :=
  Met l (zy e) (zws e) (zrm d) (zPre D tC adr as h) (zPost D tC adr rv h') 0 0 (zA adr)
theorem zPre_blind {D : va_G} {tC : Nat → ClassId} {adr : Nat → Nat} {as : List Value} {h : zH} : FrameBlind (zPre D tC adr as h) := fun a U g mk q => by
  obtain ⟨q0, qP, qK, qS⟩ := q
  exact ⟨q0, qP, va_K.moved (u := U) (U := U.calling g mk a) (Vm.Alike.refl U.vm) qK, zStat_go (u := U) (U := U.calling g mk a) (Vm.Alike.refl U.vm) (fun _ _ _ => rfl) (fun _ z => z) qS⟩
def zSl (as : List Value) : zLo := as.flatMap fun v => if v.category = 2 then [some v, none] else [some v]
theorem zSl_len (adr : Nat → Nat) : ∀ as : List Value, (lg_sl (as.map (zcv adr))).length = (zSl as).length
  | [] => rfl
  | v :: as => by
    have ih := zSl_len adr as
    unfold lg_sl zSl at ih ⊢
    rw [List.map_cons, List.flatMap_cons, List.flatMap_cons, List.length_append, List.length_append, ih, zcv_cat]
    by_cases hc : v.category = 2
    · rw [if_pos hc, if_pos hc]; rfl
    · rw [if_neg hc, if_neg hc]; rfl
theorem zSl_at (adr : Nat → Nat) : ∀ (as : List Value) (k i : Nat) (v : Value), (zSl as)[i]? = some (some v) → (k + i, zcv adr v) ∈ lv_args k (as.map (zcv adr))
  | [], k, i, v, h => by simp [zSl] at h
  | w :: as, k, i, v, h => by
    have ih := zSl_at adr as
    unfold zSl at h
    rw [List.flatMap_cons] at h
    show _ ∈ lv_args k (zcv adr w :: as.map (zcv adr))
    unfold lv_args
    rw [zcv_cat]
    by_cases hc : w.category = 2
    · rw [if_pos hc] at h ⊢
      match i, h with
      | 0, h => simp at h; rw [← h]; exact List.mem_cons_self
      | 1, h => simp at h
      | i + 2, h =>
        have h2 : (zSl as)[i]? = some (some v) := by simpa [zSl] using h
        have := ih (k + 2) i v h2
        rw [show k + 2 + i = k + (i + 2) by omega] at this
        exact List.mem_cons_of_mem _ this
    · rw [if_neg hc] at h ⊢
      match i, h with
      | 0, h => simp at h; rw [← h]; exact List.mem_cons_self
      | i + 1, h =>
        have h2 : (zSl as)[i]? = some (some v) := by simpa [zSl] using h
        have := ih (k + 1) i v h2
        rw [show k + 1 + i = k + (i + 1) by omega] at this
        exact List.mem_cons_of_mem _ this
theorem zEnt_R {adr : Nat → Nat} {as : List Value} {n : Nat} (hn : (zSl as).length ≤ n) : zR ((lg_sl (as.map (zcv adr)) ++ List.replicate (n - (lg_sl (as.map (zcv adr))).length) Slot.unset).toArray) n adr (zEnt as n) := by
  have h := lv_entry (as.map (zcv adr)) (n := n) (by rw [zSl_len]; exact hn)
  refine ⟨?_, h.1, h.2.1, fun q hq => ?_⟩
  · show (zSl as ++ List.replicate (n - (zSl as).length) none).length = n
    rw [List.length_append, List.length_replicate]
    omega
  · obtain ⟨v, hv, e⟩ := zAs_mem hq
    have hv : (zSl as ++ List.replicate (n - (zSl as).length) none)[q.1]? = some (some v) := hv
    by_cases hi : q.1 < (zSl as).length
    · rw [List.getElem?_append_left hi] at hv
      have h1 := h.2.2 _ (zSl_at adr as 0 q.1 v hv)
      rw [Nat.zero_add] at h1
      rw [e]
      exact h1
    · rw [List.getElem?_append_right (by omega), List.getElem?_replicate] at hv
      split at hv <;> cases hv
section ZC
variable {p : Program} {l : Launch} {e : Env} {R : Room} {s : State} {m : MethodId} {args : Array Value} {below : List Frame} {meth : Method} {c : Code} {cells slots : Nat} {Q : State → Prop}
variable {cc : ByteArray} {nL o : Nat} {D : va_G} {tC : Nat → ClassId} {adr : Nat → Nat} {A : Nat → Prop} {E : zSc}
variable {pc : Nat} {L : zLo} {S : List Value} {h : zH}
theorem zCopy_ok (C : zCx p R s m args c cc nL o D tC adr A E) {k pos : Nat} (hk : zFind k (zAT.getD o []) = some pos) {r : List Value × zH} (hi : zCopy S h = some r) (hdg : decode cc pc = .ok (.invokestatic k, 3))
    (kk : zWp p l e R s m args below meth c cells slots Q nL D tC adr A (pc + 3) (L, r)) : zWp p l e R s m args below meth c cells slots Q nL D tC adr A pc (L, S, h) := by
  obtain ⟨hx, hb, hml, hown, ho, hts, hK, hinj, hAin, hst, hE, hR1, hR2⟩ := id C
  unfold zCopy at hi
  split at hi
  · rename_i n dp q1 sp q0 rest
    split at hi
    · rename_i n0 n1 hl0 hl1
      split at hi
      · cases hi
      · rename_i hc
        cases hi
        obtain ⟨w1, w2, w3⟩ := zACw
        intro H locs ls hP hS hl
        have hnw : nativeFrameWords "java/lang/System" "arraycopy" 5 + 11 ≤ 56 := by decide +kernel
        have hc8 : zCat rest ≤ 8 := Nat.not_lt.mp fun z => hc (Or.inr (Or.inr (Or.inr (Or.inr (Or.inr z)))))
        refine va_copyi hx hb (hml.trans hl.2.1.symm) hown (hts _ (zA_ok ho hk)) (hts _ (zTb_in w1 rfl)) (hts _ (zTb_in w2 rfl)) (hts _ (zTb_in w3 rfl)) hK hP (zW_D hinj hAin) hS q0 q1 0 0 (zW_at hl0) (zW_at hl1) rfl rfl rfl (fun z => hc (Or.inl z)) (fun z => hc (Or.inr (Or.inl z))) (fun z => hc (Or.inr (Or.inr (Or.inl z)))) (Nat.not_lt.mp fun z => hc (Or.inr (Or.inr (Or.inr (Or.inl z))))) (Nat.not_lt.mp fun z => hc (Or.inr (Or.inr (Or.inr (Or.inr (Or.inl z)))))) (fun _ _ => rfl) hR1 (by rw [zcv_sum]; omega) hdg (fun H1 locs1 hP1 hD1 hS1 => kk H1 locs1 ls ?_ hS1 hl)
        have e1 : zcE adr tC (va_up h.1 q1 (va_cpy (h.1 q0) (h.1 q1) sp.toNatClampNeg dp.toNatClampNeg n.toNatClampNeg), h.2) q1 (.inr (.inl n1)) = .inl (tC 0, n1, .inl (va_cpy (h.1 q0) (h.1 q1) sp.toNatClampNeg dp.toNatClampNeg n.toNatClampNeg)) := by simp [zcE, va_up]
        have e2 := zW_set (adr := adr) (tC := tC) (h := h) (h' := (va_up h.1 q1 (va_cpy (h.1 q0) (h.1 q1) sp.toNatClampNeg dp.toNatClampNeg n.toNatClampNeg), h.2)) hl1 e1 (fun j z hj => by
          have e : va_up h.1 q1 (va_cpy (h.1 q0) (h.1 q1) sp.toNatClampNeg dp.toNatClampNeg n.toNatClampNeg) j = h.1 j := by simp [va_up, hj]
          rcases z with ⟨c, fs⟩ | n | n | ⟨t, ks⟩
          · simp only [zcE, e]
          · simp only [zcE, e]
          · simp only [zcE]
          · simp only [zcE])
        show va_P D vwCl (zW adr tC (va_up h.1 q1 (va_cpy (h.1 q0) (h.1 q1) sp.toNatClampNeg dp.toNatClampNeg n.toNatClampNeg), h.2)) H1
        rw [← e2]
        exact hP1
    · cases hi
  · cases hi
theorem zRunW {H H0 : Heap} {locs : List Loc} {ls : Array Slot} {st0 rest : List Value} {A0 A1 : Nat → Prop} {free : Addr → Prop} {rv : Option Value} {B : State → Prop} (hr : va_Run p l e R s m args below meth c H locs cells slots 0 0 (F0 m pc ls st0) rest (fun st oc t => (oc = .returned rv ∧ B t) ∧ va_F A1 st t) free) (hS : va_S A0 H0 H locs) (hA : ∀ q, q < H.size → A1 q → A0 q) (hf : ∀ q, free q → A0 q)
    (kk : ∀ (t : State) (H1 : Heap) (locs1 : List Loc), t.heap = H1 → B t → va_S A0 H0 H1 locs1 → W p l e R s m args below meth c H1 locs1 cells slots Q (F0 m (pc + 3) ls (rv.toList ++ rest))) : W p l e R s m args below meth c H locs cells slots Q (F0 m pc ls st0) := by
  intro T hT X
  obtain ⟨v, st₀, t, T', L, h0, X', hL, e1, e2, ⟨⟨hv, hb⟩, hz, hk⟩, st⟩ := hr T hT X
  cases hv
  rw [h0] at hz hk
  obtain ⟨t2, a1, b1⟩ := kk t T'.heap (locs ++ L) e1.symm hb
    ⟨Nat.le_trans hS.1 (by rw [e1]; exact hz), fun q h1 h2 => by rw [e1, hk q (Nat.lt_of_lt_of_le h1 hS.1) (fun z => h2 (hA q (Nat.lt_of_lt_of_le h1 hS.1) z))]; exact hS.2.1 q h1 h2, fun q hq => by
      rcases List.mem_append.mp hq with h | h
      · exact hS.2.2 q h
      · exact hf _ (hL q h)⟩ T' rfl X'
  exact ⟨t2, st t2 a1, b1⟩
theorem zAll {g : zE → Bool} (h : zP.all g = true) {M : Nat} {e : zE} (hM : zP[M]? = some e) : g e = true := List.all_eq_true.mp h e (List.mem_of_getElem? hM)
theorem zws_in {e : zE} {M : Nat} (hM : zP[M]? = some e) {ex : List Cond} (hx : ∀ w ∈ ex, w ∈ zTb) : GoodIn zTb (ex ++ zws e) := by
  intro w hw
  have hw2 : w ∈ zTb := by
    rcases List.mem_append.mp hw with h1 | h1
    · exact hx w h1
    · rcases List.mem_cons.mp h1 with h2 | h2
      · rw [h2]; exact zTb_at (zOkAll e (List.mem_of_getElem? hM)).2 rfl
      · exact h2
  exact zTb_good w hw2
theorem zm_d {e : zE} {M : Nat} (hM : zP[M]? = some e) : (zy e).cls ≠ "java/lang/invoke/MethodHandle" ∧ (zy e).cls ≠ "java/lang/invoke/VarHandle" ∧ (parseMethodDescriptor (zy e).desc).map (fun d => d.parameters.length) = some (zn e) := by
  have h3 := zAll zM3 hM
  have h4 := zAll zM4 hM
  simp only [Bool.and_eq_true, decide_eq_true_eq] at h3 h4
  exact ⟨h3.1, h3.2, h4⟩
end ZC

/-! a step of the pure machine is a step of the machine -/
def zStat (adr : Nat → Nat) (A : Nat → Prop) (U : State) (H : Heap) : Prop :=
  (va_Z "MapItch$Asks" "NEXT_KIND" "[I" (.ref (adr 900)) A U H ∧ va_T .int (adr 900) 6 (fun j => .int (zs0 j)) A U H) ∧
  (va_Z "MapItch$Asks" "SIZE_BODY" "[I" (.ref (adr 901)) A U H ∧ va_T .int (adr 901) 6 (fun j => .int (zs1 j)) A U H) ∧
  (va_Z "MapItch$Asks" "MARK_BODY" "[I" (.ref (adr 902)) A U H ∧ va_T .int (adr 902) 6 (fun j => .int (zs2 j)) A U H)
theorem zStat_go {adr : Nat → Nat} {A B : Nat → Prop} {u U : State} {H H1 : Heap} (hvm : u.vm.Alike U.vm) (hq : ∀ a : Nat, a < H.size → ¬ A a → H1[a]? = H[a]?) (hAB : ∀ q, B q → A q) (h : zStat adr A u H) : zStat adr B U H1 := by
  obtain ⟨⟨a1, a2⟩, ⟨b1, b2⟩, c1, c2⟩ := h
  exact ⟨⟨((a1.kept hq).moved hvm).narrow hAB, ((a2.kept hq).moved hvm).narrow hAB⟩, ⟨((b1.kept hq).moved hvm).narrow hAB, ((b2.kept hq).moved hvm).narrow hAB⟩, ((c1.kept hq).moved hvm).narrow hAB, ((c2.kept hq).moved hvm).narrow hAB⟩
def zCx (p : Program) (R : Room) (s : State) (m : MethodId) (args : Array Value) (c : Code) (cc : ByteArray) (nL o : Nat) (D : va_G) (tC : Nat → ClassId) (adr : Nat → Nat) (A : Nat → Prop) (E : zSc) : Prop :=
  p.tables.exec = Jvm.exec ∧ c.code = cc ∧ c.maxLocals = nL ∧ s.vm.findClass (zCn.getD o "") = some m.cls ∧ o < 15 ∧ (∀ w ∈ zTb, w.before args s = true) ∧ va_K D vwCl (zTy tC) s ∧ zInj adr ∧ (∀ k, k < lay.length → A (adr k)) ∧ zStat adr A s s.heap ∧ (∀ n xs, E = some (n, xs) → va_X (adr 800) n xs s s.heap ∧ adr 800 < s.heap.size ∧ ¬ A (adr 800)) ∧ 1 ≤ R.frames ∧ 64 ≤ R.locals
theorem zblt {a b : Nat} (h : Nat.blt a b = true) : a < b := Nat.le_of_ble_eq_true h
theorem zCls : ∀ (c : Nat) (r : vw_C), vwCl[c]? = some r → (∀ w ∈ u_ws r.1 r.2.1 r.2.2, w ∈ zTb) ∧ (∃ ty0 : Nat → FieldType, ∀ k, k < r.2.2 → parseFieldDescriptor (r.2.1 k).2.2.1 = some (ty0 k)) ∧ (∀ a, a < r.2.2 → ∀ b, b < r.2.2 → a ≠ b → (r.2.1 a).2.1 ≠ (r.2.1 b).2.1)
  | 0, r, h => by cases h; exact ⟨by decide +kernel, ⟨tyX0, tyX0_ok⟩, nmX0⟩
  | 1, r, h => by cases h; exact ⟨by decide +kernel, ⟨tyX1, tyX1_ok⟩, nmX1⟩
  | 2, r, h => by cases h; exact ⟨by decide +kernel, ⟨tyX2, tyX2_ok⟩, nmX2⟩
  | 3, r, h => by cases h; exact ⟨by decide +kernel, ⟨tyX3, tyX3_ok⟩, nmX3⟩
  | 4, r, h => by cases h; exact ⟨by decide +kernel, ⟨tyX5, tyX5_ok⟩, nmX5⟩
  | 5, r, h => by cases h; exact ⟨by decide +kernel, ⟨tyX7, tyX7_ok⟩, nmX7⟩
  | 6, r, h => by cases h; exact ⟨by decide +kernel, ⟨tyX8, tyX8_ok⟩, nmX8⟩
  | 7, r, h => by cases h; exact ⟨by decide +kernel, ⟨tyX9, tyX9_ok⟩, nmX9⟩
  | 8, r, h => by cases h; exact ⟨by decide +kernel, ⟨tyX10, tyX10_ok⟩, nmX10⟩
  | n + 9, r, h => by simp [vwCl] at h
theorem zRange {α : Type} {T : List (List α)} {g : Nat → α → Bool} (h : ((List.range 15).all fun o => (T.getD o []).all (g o)) = true) {o : Nat} (ho : o < 15) {q : α} (hq : q ∈ T.getD o []) : g o q = true :=
  List.all_eq_true.mp (List.all_eq_true.mp h o (List.mem_range.mpr ho)) q hq
theorem zFld_ok {o k c sl : Nat} (ho : o < 15) (h : zFld o k = some (c, sl)) : ∃ r : vw_C, vwCl[c]? = some r ∧ sl < r.2.2 ∧ Cond.fieldLink (zCn.getD o "") k (r.2.1 sl).1 (r.2.1 sl).2.1 (r.2.1 sl).2.2.1 ∈ zTb := by
  unfold zFld at h
  split at h
  · rename_i c' s' p' hf
    cases h
    have hm := zRange (g := zFTok) zFTall ho (zFind_mem hf)
    unfold zFTok at hm
    split at hm
    · rename_i r hr
      simp only [Bool.and_eq_true, decide_eq_true_eq] at hm
      exact ⟨r, hr, zblt hm.1, zTb_at hm.2 rfl⟩
    · cases hm
  · cases h
theorem zObj_ok {q c sl : Nat} {fs : List (Option Nat)} (hl : lay[q]? = some (.inl (c, fs))) (hs : fs[sl]? = some none) : ∃ r : vw_C, vwCl[c]? = some r ∧ sl < r.2.2 ∧ (r.2.1 sl).2.2.2 = false ∧ parseFieldDescriptor (r.2.1 sl).2.2.1 = some (bif zIsB c sl then .boolean else .int) := by
  have h := List.all_eq_true.mp zObj _ (List.mem_of_getElem? hl)
  have h2 := List.all_eq_true.mp h sl (List.mem_range.mpr (List.getElem?_eq_some_iff.mp hs).1)
  rw [hs] at h2
  dsimp only at h2
  unfold zFldOk at h2
  split at h2
  · rename_i r hr
    simp only [Bool.and_eq_true, decide_eq_true_eq, Bool.not_eq_true'] at h2
    exact ⟨r, hr, zblt h2.1.1, h2.1.2, h2.2⟩
  · cases h2
section ZS
variable {p : Program} {l : Launch} {e : Env} {R : Room} {s : State} {m : MethodId} {args : Array Value} {below : List Frame} {meth : Method} {c : Code} {cells slots : Nat} {Q : State → Prop}
variable {cc : ByteArray} {nL o : Nat} {D : va_G} {tC : Nat → ClassId} {adr : Nat → Nat} {A : Nat → Prop} {E : zSc}
def zWp (p : Program) (l : Launch) (e : Env) (R : Room) (s : State) (m : MethodId) (args : Array Value) (below : List Frame) (meth : Method) (c : Code) (cells slots : Nat) (Q : State → Prop) (nL : Nat) (D : va_G) (tC : Nat → ClassId) (adr : Nat → Nat) (A : Nat → Prop) (pc : Nat) (f : zF) : Prop :=
  ∀ (H : Heap) (locs : List Loc) (ls : Array Slot), va_P D vwCl (zW adr tC f.2.2) H → va_S A s.heap H locs → zR ls nL adr f.1 → W p l e R s m args below meth c H locs cells slots Q (F0 m pc ls (f.2.1.map (zcv adr)))
variable {pc : Nat} {L : zLo} {S : List Value} {h : zH} {f' : zF}
theorem zBin_ok {f : Int32 → Int32 → Int32} (hi : zBin f L S h = some f') (row : ∀ (H : Heap) (locs : List Loc) (ls : Array Slot) (x y : Int32) (rest : List Value), W p l e R s m args below meth c H locs cells slots Q (F0 m (pc + 1) ls (.int (f x y) :: rest)) → W p l e R s m args below meth c H locs cells slots Q (F0 m pc ls (.int y :: .int x :: rest)))
    (k : zWp p l e R s m args below meth c cells slots Q nL D tC adr A (pc + 1) f') : zWp p l e R s m args below meth c cells slots Q nL D tC adr A pc (L, S, h) := by
  unfold zBin at hi
  split at hi
  · cases hi
    exact fun H locs ls hP hS hl => row H locs ls _ _ _ (k H locs ls hP hS hl)
  · cases hi
theorem zBiD_ok {f : Int32 → Int32 → Int32} (hi : zBiD f L S h = some f') (row : ∀ (H : Heap) (locs : List Loc) (ls : Array Slot) (x y : Int32) (rest : List Value), ¬ y = 0 → W p l e R s m args below meth c H locs cells slots Q (F0 m (pc + 1) ls (.int (f x y) :: rest)) → W p l e R s m args below meth c H locs cells slots Q (F0 m pc ls (.int y :: .int x :: rest)))
    (k : zWp p l e R s m args below meth c cells slots Q nL D tC adr A (pc + 1) f') : zWp p l e R s m args below meth c cells slots Q nL D tC adr A pc (L, S, h) := by
  unfold zBiD at hi
  split at hi
  · split at hi
    · cases hi
    · rename_i hne
      cases hi
      exact fun H locs ls hP hS hl => row H locs ls _ _ _ hne (k H locs ls hP hS hl)
  · cases hi
theorem zLin_ok {f : Int64 → Int64 → Int64} (hi : zLin f L S h = some f') (row : ∀ (H : Heap) (locs : List Loc) (ls : Array Slot) (x y : Int64) (rest : List Value), W p l e R s m args below meth c H locs cells slots Q (F0 m (pc + 1) ls (.long (f x y) :: rest)) → W p l e R s m args below meth c H locs cells slots Q (F0 m pc ls (.long y :: .long x :: rest)))
    (k : zWp p l e R s m args below meth c cells slots Q nL D tC adr A (pc + 1) f') : zWp p l e R s m args below meth c cells slots Q nL D tC adr A pc (L, S, h) := by
  unfold zLin at hi
  split at hi
  · cases hi
    exact fun H locs ls hP hS hl => row H locs ls _ _ _ (k H locs ls hP hS hl)
  · cases hi
theorem zLiD_ok {f : Int64 → Int64 → Int64} (hi : zLiD f L S h = some f') (row : ∀ (H : Heap) (locs : List Loc) (ls : Array Slot) (x y : Int64) (rest : List Value), ¬ y = 0 → W p l e R s m args below meth c H locs cells slots Q (F0 m (pc + 1) ls (.long (f x y) :: rest)) → W p l e R s m args below meth c H locs cells slots Q (F0 m pc ls (.long y :: .long x :: rest)))
    (k : zWp p l e R s m args below meth c cells slots Q nL D tC adr A (pc + 1) f') : zWp p l e R s m args below meth c cells slots Q nL D tC adr A pc (L, S, h) := by
  unfold zLiD at hi
  split at hi
  · split at hi
    · cases hi
    · rename_i hne
      cases hi
      exact fun H locs ls hP hS hl => row H locs ls _ _ _ hne (k H locs ls hP hS hl)
  · cases hi
theorem zUn_ok {f : Int32 → Int32} (hi : zUn f L S h = some f') (row : ∀ (H : Heap) (locs : List Loc) (ls : Array Slot) (x : Int32) (rest : List Value), W p l e R s m args below meth c H locs cells slots Q (F0 m (pc + 1) ls (.int (f x) :: rest)) → W p l e R s m args below meth c H locs cells slots Q (F0 m pc ls (.int x :: rest)))
    (k : zWp p l e R s m args below meth c cells slots Q nL D tC adr A (pc + 1) f') : zWp p l e R s m args below meth c cells slots Q nL D tC adr A pc (L, S, h) := by
  unfold zUn at hi
  split at hi
  · cases hi
    exact fun H locs ls hP hS hl => row H locs ls _ _ (k H locs ls hP hS hl)
  · cases hi
theorem zLdi_ok {i n : Nat} (hi : zLdi L i S h = some f') (row : ∀ (H : Heap) (locs : List Loc) (ls : Array Slot) (x : Int32) (rest : List Value), ls[i]? = some (.val (.int x)) → W p l e R s m args below meth c H locs cells slots Q (F0 m (pc + n) ls (.int x :: rest)) → W p l e R s m args below meth c H locs cells slots Q (F0 m pc ls rest))
    (k : zWp p l e R s m args below meth c cells slots Q nL D tC adr A (pc + n) f') : zWp p l e R s m args below meth c cells slots Q nL D tC adr A pc (L, S, h) := by
  unfold zLdi at hi
  split at hi
  · rename_i x hx
    cases hi
    exact fun H locs ls hP hS hl => row H locs ls _ _ (zR_at hl hx) (k H locs ls hP hS hl)
  · cases hi
theorem zLdl_ok {i n : Nat} (hi : zLdl L i S h = some f') (row : ∀ (H : Heap) (locs : List Loc) (ls : Array Slot) (x : Int64) (rest : List Value), ls[i]? = some (.val (.long x)) → W p l e R s m args below meth c H locs cells slots Q (F0 m (pc + n) ls (.long x :: rest)) → W p l e R s m args below meth c H locs cells slots Q (F0 m pc ls rest))
    (k : zWp p l e R s m args below meth c cells slots Q nL D tC adr A (pc + n) f') : zWp p l e R s m args below meth c cells slots Q nL D tC adr A pc (L, S, h) := by
  unfold zLdl at hi
  split at hi
  · rename_i x hx
    cases hi
    exact fun H locs ls hP hS hl => row H locs ls _ _ (zR_at hl hx) (k H locs ls hP hS hl)
  · cases hi
theorem zLda_ok {i n : Nat} (hi : zLda L i S h = some f') (row : ∀ (H : Heap) (locs : List Loc) (ls : Array Slot) (x : Nat) (rest : List Value), ls[i]? = some (.val (.ref x)) → W p l e R s m args below meth c H locs cells slots Q (F0 m (pc + n) ls (.ref x :: rest)) → W p l e R s m args below meth c H locs cells slots Q (F0 m pc ls rest))
    (k : zWp p l e R s m args below meth c cells slots Q nL D tC adr A (pc + n) f') : zWp p l e R s m args below meth c cells slots Q nL D tC adr A pc (L, S, h) := by
  unfold zLda at hi
  split at hi
  · rename_i x hx
    cases hi
    exact fun H locs ls hP hS hl => row H locs ls _ _ (zR_at hl hx) (k H locs ls hP hS hl)
  · cases hi
theorem zSti_ok {i n : Nat} (hi : zSti L i S h = some f') (row : ∀ (H : Heap) (locs : List Loc) (ls : Array Slot) (x : Int32) (rest : List Value) (lv : List (Nat × Value)), lv_has ls nL lv → i < nL → (∀ ls' : Array Slot, lv_has ls' nL ((i, Value.int x) :: lv.filter (fun q => !(q.1 == i) && !(q.1 + 1 == i && q.2.category == 2))) → W p l e R s m args below meth c H locs cells slots Q (F0 m (pc + n) ls' rest)) → W p l e R s m args below meth c H locs cells slots Q (F0 m pc ls (.int x :: rest)))
    (k : zWp p l e R s m args below meth c cells slots Q nL D tC adr A (pc + n) f') : zWp p l e R s m args below meth c cells slots Q nL D tC adr A pc (L, S, h) := by
  unfold zSti at hi
  split at hi
  · rename_i x r
    cases hb : Nat.blt i L.length with
    | false => rw [hb] at hi; cases hi
    | true =>
      rw [hb] at hi
      cases hi
      have hlt := zblt hb
      exact fun H locs ls hP hS hl => row H locs ls _ _ _ hl.2 (by rw [← hl.1]; exact hlt) (fun ls' h' => k H locs ls' hP hS (zR_st1 (v := .int x) hl.1 (by rw [← hl.1]; exact hlt) h'))
  · cases hi
theorem zSta_ok {i n : Nat} (hi : zSta L i S h = some f') (row : ∀ (H : Heap) (locs : List Loc) (ls : Array Slot) (x : Nat) (rest : List Value) (lv : List (Nat × Value)), lv_has ls nL lv → i < nL → (∀ ls' : Array Slot, lv_has ls' nL ((i, Value.ref x) :: lv.filter (fun q => !(q.1 == i) && !(q.1 + 1 == i && q.2.category == 2))) → W p l e R s m args below meth c H locs cells slots Q (F0 m (pc + n) ls' rest)) → W p l e R s m args below meth c H locs cells slots Q (F0 m pc ls (.ref x :: rest)))
    (k : zWp p l e R s m args below meth c cells slots Q nL D tC adr A (pc + n) f') : zWp p l e R s m args below meth c cells slots Q nL D tC adr A pc (L, S, h) := by
  unfold zSta at hi
  split at hi
  · rename_i x r
    cases hb : Nat.blt i L.length with
    | false => rw [hb] at hi; cases hi
    | true =>
      rw [hb] at hi
      cases hi
      have hlt := zblt hb
      exact fun H locs ls hP hS hl => row H locs ls _ _ _ hl.2 (by rw [← hl.1]; exact hlt) (fun ls' h' => k H locs ls' hP hS (zR_st1 (v := .ref x) hl.1 (by rw [← hl.1]; exact hlt) h'))
  · cases hi
theorem zStl_ok {i n : Nat} (hi : zStl L i S h = some f') (row : ∀ (H : Heap) (locs : List Loc) (ls : Array Slot) (x : Int64) (rest : List Value) (lv : List (Nat × Value)), lv_has ls nL lv → i + 1 < nL → (∀ ls' : Array Slot, lv_has ls' nL ((i, Value.long x) :: lv.filter (fun q => !(q.1 == i) && (!(q.1 == i + 1) && !(q.1 + 1 == i && q.2.category == 2)))) → W p l e R s m args below meth c H locs cells slots Q (F0 m (pc + n) ls' rest)) → W p l e R s m args below meth c H locs cells slots Q (F0 m pc ls (.long x :: rest)))
    (k : zWp p l e R s m args below meth c cells slots Q nL D tC adr A (pc + n) f') : zWp p l e R s m args below meth c cells slots Q nL D tC adr A pc (L, S, h) := by
  unfold zStl at hi
  split at hi
  · rename_i x r
    cases hb : Nat.blt (i + 1) L.length with
    | false => rw [hb] at hi; cases hi
    | true =>
      rw [hb] at hi
      cases hi
      have hlt := zblt hb
      exact fun H locs ls hP hS hl => row H locs ls _ _ _ hl.2 (by rw [← hl.1]; exact hlt) (fun ls' h' => k H locs ls' hP hS (zR_st2 (v := .long x) hl.1 (by rw [← hl.1]; exact hlt) h'))
  · cases hi
theorem zInc_ok (C : zCx p R s m args c cc nL o D tC adr A E) {i : Nat} {n : Int} (hi : zInc L i n S h = some f') (hdg : decode cc pc = .ok (.iinc i n, 3))
    (k : zWp p l e R s m args below meth c cells slots Q nL D tC adr A (pc + 3) f') : zWp p l e R s m args below meth c cells slots Q nL D tC adr A pc (L, S, h) := by
  obtain ⟨hx, hb, -⟩ := C
  unfold zInc at hi
  split at hi
  · rename_i x hxx
    cases hi
    intro H locs ls hP hS hl
    have hlt : i < nL := by rw [← hl.1]; exact (List.getElem?_eq_some_iff.mp hxx).1
    obtain ⟨j, hj⟩ := List.getElem?_of_mem (zAs_in (adr := adr) hxx)
    exact lv_iinc hx hb hdg hl.2 hj rfl hlt rfl (fun ls' h' => k H locs ls' hP hS (zR_st1 (v := .int (x + Int32.ofInt n)) hl.1 hlt h'))
  · cases hi
end ZS

/-! the law's body, over the machine -/
def R_law : String := "MapItchLaw"
def lw_P (b : Addr) (xs : List Int32) (args : Array Value) (s : State) : Prop := args = #[.ref b] ∧ s.IntsAt b xs ∧ xs.length ≤ 3072 ∧ (Jvm.Cond.and given_1 narrow_1).before args s = true
def lw_Q (_ : Array Value) (s : State) (o : Outcome) (t : State) : Prop := o = .returned (some (.int 1)) ∧ Framed s o t [] 600000 7302250
def lw_Z (below : List Frame) (a : Array Value) (s : State) : State → Prop := fun t => ∃ o, t.status = .running ∧ Ended t below o ∧ lw_Q a s o t
/-- the law's own end, with 1 on the stack, nothing written that was there before, its room as the claim has it -/
theorem lw_ret {p : Program} {l : Launch} {e : Env} {s : State} {m : MethodId} {below : List Frame} {meth : Method} {c : Code} {b : Nat} (hx : p.tables.exec = Jvm.exec) (hb : c.code = code) (hr : meth.sig.returnType = ret) (hlocks : meth.locks = false) {pc : Nat} {H : Heap} {ls : Array Slot} (hdg : decode code pc = .ok (.ireturn, 1)) : W p l e room_1 s m #[Value.ref b] below meth c H [] 600000 7302250 (lw_Z below #[Value.ref b] s) (F0 m pc ls [.int 1]) := by
  intro T hT X
  obtain ⟨fs, hret, hrun, hended, hW, hframe⟩ := X.leave (v := some (.int 1)) (hlocks := hlocks) (fun h => by rw [hr] at h; cases h)
  have hmeth' : T.vm.method? m = some meth := X.method'
  refine ⟨T.setFrames fs, ?_, .returned (some (.int 1)), hrun, hended, rfl, ⟨_, rfl⟩, hW, hframe⟩
  jvm_step X.here [X.here.top, hx, hb, hdg, hmeth', hr, ret, narrow_b1]
  (try refine ⟨rfl, ?_⟩); (try refine ⟨rfl, ?_⟩)
  first | (intro acts; rw [hret _ acts rfl rfl rfl]) | rw [hret _ _ rfl rfl rfl]
  exact Steps.refl _
/-- what holds at the law's entry: the machine, the code, the tables' words (any of lw_tbl by 'hts w (by decide +kernel)'), the script of L ints xs at the cell b, what the Statement gives of the start (any of its parts by flat_of_before) -/
def lw_At (p : Program) (s : State) (m : MethodId) (meth : Method) (c : Code) (b L : Nat) (xs : Nat → Int32) : Prop :=
  p.tables.exec = Jvm.exec ∧ c.code = code ∧ meth.sig.returnType = ret ∧ c.maxLocals = 4 ∧ s.vm.findClass R_law = some m.cls ∧ (∀ w ∈ lw_tbl, w.before #[Value.ref b] s = true) ∧ va_X b L xs s s.heap ∧ b < s.heap.size ∧ meth.locks = false ∧ (Jvm.Cond.and given_1 narrow_1).before #[Value.ref b] s = true
theorem kgoodL {w1 : Cond} (h : w1 ∈ zTb) : GoodIn zTb (w1 :: zTb) := fun w hw => by
  rcases List.mem_cons.mp hw with rfl | hw
  · exact zTb_good _ h
  · exact zTb_good _ hw
theorem zLdec {pc : Nat} {i : Instr} (hf : zFind pc zkL = some i) : ∃ n, decode code pc = .ok (i, n) ∧ (zSw i = true ∨ n = zLen i) := by
  have h := List.all_eq_true.mp zkL_ok _ (zFind_mem hf)
  dsimp only at h
  split at h
  · rename_i j n hd
    simp only [Bool.and_eq_true, decide_eq_true_eq, Bool.or_eq_true, beq_iff_eq] at h
    obtain ⟨rfl, h2⟩ := h
    exact ⟨n, hd, h2⟩
  · cases h
theorem zRet_law {i : Instr} {S : List Value} (h : zRet (some .boolean) i S = some (some (.int 1))) : i = .ireturn ∧ S = [.int 1] := by
  unfold zRet at h
  split at h
  · split at h
    · rename_i he
      cases he
    · split at h
      · cases h
        exact ⟨rfl, rfl⟩
      · cases h
    · cases h
  · split at h
    · rename_i he
      cases he
    · cases h
  · split at h
    · rename_i he
      cases he
    · cases h
  · cases h
theorem zLrec {l : Launch} {D : va_G} {tC : Nat → ClassId} {adr : Nat → Nat} (hinj : zInj adr) (n d : Nat) (hd : d ≤ 1000) : zRec l D tC adr room_1 (zSub n d) := by
  cases d with
  | zero =>
    intro M x as h out hM hs hz
    cases hz
  | succ d =>
    intro M x as h out hM hs hz
    exact ⟨d, zRun_ok l D tC adr hinj d n M x as h out hM hs hz, (by show d + 1 + 1 ≤ 2048; omega), (by show 49 + 64 * (d + 1) ≤ 84000; omega)⟩
section LWC
variable {p : Program} {l : Launch} {e : Env} {s : State} {m : MethodId} {below : List Frame} {meth : Method} {c : Code} {b L : Nat} {xs : Nat → Int32} {D : va_G} {tC : Nat → ClassId} {adr : Nat → Nat}
theorem zLaw_ok (hr : meth.sig.returnType = ret) (hlocks : meth.locks = false) (C : zCx p room_1 s m #[Value.ref b] c code 4 14 D tC adr (fun q => s.heap.size ≤ q) (some (L, xs))) (h' : zH) (d : Nat) (hd : d ≤ 1000) :
    ∀ (n pc : Nat) (Lo : zLo) (S : List Value) (h : zH), zExec (some (L, xs)) 14 zkL (some .boolean) n d pc Lo S h = some (some (.int 1), h') → zWp p l e room_1 s m #[Value.ref b] below meth c 600000 7302250 (lw_Z below #[Value.ref b] s) 4 D tC adr (fun q => s.heap.size ≤ q) pc (Lo, S, h)
  | 0, pc, Lo, S, h, hz => by unfold zExec at hz; cases hz
  | n + 1, pc, Lo, S, h, hz => by
    unfold zExec at hz
    split at hz
    · cases hz
    · rename_i i hf
      obtain ⟨n', hdg, hn⟩ := zLdec hf
      split at hz
      · rename_i rv hrv
        cases hz
        obtain ⟨rfl, rfl⟩ := zRet_law hrv
        have hn : n' = 1 := hn.elim (fun z => by cases z) id
        subst hn
        intro H locs ls hP hS hl
        exact va_forget (fun q hq => hS.2.2 q hq) (lw_ret C.1 C.2.1 hr hlocks hdg)
      · split at hz
        · cases hz
        · rename_i pc' L' S' h1 ho
          exact zOne_ok (q := (pc', L', S', h1)) C (zLrec C.2.2.2.2.2.2.2.1 n d hd) (Nat.le_refl _) (Nat.le_refl _) ho hdg hn (zLaw_ok hr hlocks C h' d hd n pc' L' S' h1 hz)
end LWC
/-! the statics, as the start has them -/
theorem zSt {args : Array Value} {s : State} {n : String} {f : Nat → Int32} {A : Nat → Prop} (hl : (Cond.laysStatic "MapItch$Asks" n "[I").before args s = true) (hini : (Cond.initialized "MapItch$Asks").before args s = true) (harr : (Cond.arrayOf (.static "MapItch$Asks" n "[I") .int).before args s = true) (hlen : (Cond.eq (.length (.static "MapItch$Asks" n "[I")) (.int 6)).before args s = true)
    (hel : ∀ j : Nat, j < 6 → (Cond.eq (.elem (.static "MapItch$Asks" n "[I") (.int (Int32.ofNat j))) (.int (f j))).before args s = true) (hA : ∀ a : Nat, a < s.heap.size → ¬ A a) : ∃ t : Nat, va_Z "MapItch$Asks" n "[I" (.ref t) A s s.heap ∧ va_T .int t 6 (fun j => .int (f j)) A s s.heap := by
  obtain ⟨y, h1, h2⟩ := Cond.eq_one (show (Cond.eq (.length (.static "MapItch$Asks" n "[I")) (.int 6)).holds args s none s [] = true from hlen)
  cases h2
  obtain ⟨t, ht, hT⟩ := va_Tof (A := A) (N := 6) (f := fun j => .int (f j)) (by decide) harr h1 (fun j hj => by
    obtain ⟨y, h3, h4⟩ := Cond.eq_one (show (Cond.eq (.elem (.static "MapItch$Asks" n "[I") (.int (Int32.ofNat j))) (.int (f j))).holds args s none s [] = true from hel j hj)
    cases h4
    exact h3) hA
  exact ⟨t, va_Zof hl hini ht hA, hT⟩
theorem fin6 {P : Nat → Prop} (h0 : P 0) (h1 : P 1) (h2 : P 2) (h3 : P 3) (h4 : P 4) (h5 : P 5) : ∀ j : Nat, j < 6 → P j := fun j hj => by
  have : j = 0 ∨ j = 1 ∨ j = 2 ∨ j = 3 ∨ j = 4 ∨ j = 5 := by omega
  rcases this with rfl | rfl | rfl | rfl | rfl | rfl <;> assumption

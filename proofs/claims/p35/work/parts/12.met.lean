theorem zOfW {l : Launch} {y : MethodName} {ws ws' : List Cond} {rm : Room} {Pc : Array Value → State → Prop} {Qc : Array Value → State → Outcome → State → Prop} {mc ms : Nat} {free : Addr → Prop} {cc : ByteArray} {maxL : Nat} {ret : Option FieldType}
    (hy : plainFor y = true) (hw : ws = Cond.code y cc maxL ret :: ws')
    (body : ∀ p e s m args below meth c s₁, BodyLoose p l y (headSpec ws rm) cc maxL ret e s m args below meth c s₁ → c.maxLocals = maxL → Pc args s →
      W p l e (headSpec ws rm).room s m args below meth c s.heap [] 0 0 (MQ below Qc args s mc ms free) (entryFrame m args maxL)) : Met l y ws rm Pc Qc mc ms free := by
  refine MetFree.of_bodySF (code := cc) (maxLocals := maxL) (ret := ret) hy ?_ ?_
  · intro args s m h hn
    obtain ⟨meth, c, h1, h2, h3, h4, h5, h6, -, -⟩ := Cond.code_spec hn (atoms_spec (ws := ws) h _ (by rw [hw]; exact List.mem_cons_self))
    exact ⟨meth, c, h1, h2, h3, h4, h5, h6⟩
  · intro p e s m args below meth c s₁ B hml hP _
    have hh0 : s₁.heap = s.heap := by rw [B.state]; rfl
    obtain ⟨t, a1, o, b1, b2, b3⟩ := body p e s m args below meth c s₁ B hml hP s₁ hh0 (Stand.of_body B)
    exact ⟨t, o, a1, b1, b2, ⟨b3.1, b3.2⟩⟩
theorem zdec {x : zE} {M : Nat} (hM : zP[M]? = some x) {pc : Nat} {i : Instr} (hf : zFind pc (zk x) = some i) : ∃ n, decode (zb x) pc = .ok (i, n) ∧ (zSw i = true ∨ n = zLen i) := by
  have h := List.all_eq_true.mp (zOkAll x (List.mem_of_getElem? hM)).1 _ (zFind_mem hf)
  dsimp only at h
  split at h
  · rename_i j n hd
    simp only [Bool.and_eq_true, decide_eq_true_eq, Bool.or_eq_true, beq_iff_eq] at h
    obtain ⟨rfl, h2⟩ := h
    exact ⟨n, hd, h2⟩
  · cases h
section ZB
variable {p : Program} {l : Launch} {e : Env} {R : Room} {s : State} {m : MethodId} {args : Array Value} {below : List Frame} {meth : Method} {c : Code} {D : va_G} {tC : Nat → ClassId} {adr : Nat → Nat}
theorem zRet_ok {x : zE} (hx : p.tables.exec = Jvm.exec) (hb : c.code = zb x) (hr : meth.sig.returnType = zr x) (hlocks : meth.locks = false) {i : Instr} {S : List Value} {rv : Option Value} {n pc : Nat} (h1 : zRet (zr x) i S = some rv) (hdg : decode (zb x) pc = .ok (i, n)) (hn : zSw i = true ∨ n = zLen i) (L : zLo) (h : zH) :
    zWp p l e R s m args below meth c 0 0 (MQ below (zPost D tC adr rv h) args s 0 0 (zA adr)) (zx x) D tC adr (zA adr) pc (L, S, h) := by
  unfold zRet at h1
  split at h1
  · have hn : n = 1 := hn.elim (fun z => by cases z) id
    subst hn
    split at h1
    · rename_i v he
      cases h1
      intro H locs ls hP hS hl
      exact W.iret (v := v) hx hb (hr.trans he) (fun t ht hW => ⟨⟨rfl, by rw [ht]; exact hP⟩, hS.F ht⟩) hS.2.2 hdg hlocks
    · rename_i v he
      split at h1
      · rename_i h01
        cases h1
        intro H locs ls hP hS hl
        rcases h01 with rfl | rfl
        · exact W.zret (v := 0) hx hb (hr.trans he) rfl (fun t ht hW => ⟨⟨rfl, by rw [ht]; exact hP⟩, hS.F ht⟩) hS.2.2 hdg hlocks
        · exact W.zret (v := 1) hx hb (hr.trans he) rfl (fun t ht hW => ⟨⟨rfl, by rw [ht]; exact hP⟩, hS.F ht⟩) hS.2.2 hdg hlocks
      · cases h1
    · cases h1
  · have hn : n = 1 := hn.elim (fun z => by cases z) id
    subst hn
    split at h1
    · rename_i v he
      cases h1
      intro H locs ls hP hS hl
      exact W.lret (v := v) hx hb (hr.trans he) (fun t ht hW => ⟨⟨rfl, by rw [ht]; exact hP⟩, hS.F ht⟩) hS.2.2 hdg hlocks
    · cases h1
  · have hn : n = 1 := hn.elim (fun z => by cases z) id
    subst hn
    split at h1
    · rename_i he
      cases h1
      intro H locs ls hP hS hl
      exact W.vret hx hb (hr.trans he) (fun t ht hW => ⟨⟨rfl, by rw [ht]; exact hP⟩, hS.F ht⟩) hS.2.2 hdg hlocks
    · cases h1
  · cases h1
/-- the runs that a method at depth d may ask for -/
abbrev zSub (n d : Nat) : Nat → zLo → zH → Option (Option Value × zH) := match d with
  | 0 => fun _ _ _ => none
  | d' + 1 => fun M' L' h' => zRun n d' M' 0 L' [] h'
theorem zBody_ok {x : zE} {M : Nat} (hM : zP[M]? = some x) (C : zCx p R s m args c (zb x) (zx x) (zo x) D tC adr (zA adr) none) (hr : meth.sig.returnType = zr x) (hlocks : meth.locks = false) (d : Nat) (hrec : ∀ n, zRec l D tC adr R (zSub n d)) (out : Option Value × zH) :
    ∀ (n pc : Nat) (L : zLo) (S : List Value) (h : zH), zRun n d M pc L S h = some out → zWp p l e R s m args below meth c 0 0 (MQ below (zPost D tC adr out.1 out.2) args s 0 0 (zA adr)) (zx x) D tC adr (zA adr) pc (L, S, h)
  | 0, pc, L, S, h, hz => by unfold zRun at hz; cases hz
  | n + 1, pc, L, S, h, hz => by
    unfold zRun at hz
    rw [hM] at hz
    dsimp only at hz
    split at hz
    · cases hz
    · rename_i i hf
      obtain ⟨n', hdg, hn⟩ := zdec hM hf
      split at hz
      · rename_i rv hrv
        cases hz
        exact zRet_ok C.1 C.2.1 hr hlocks hrv hdg hn L h
      · split at hz
        · cases hz
        · rename_i pc' L' S' h' ho
          exact zOne_ok (q := (pc', L', S', h')) C (hrec n) (Nat.zero_le _) (Nat.zero_le _) ho hdg hn (zBody_ok hM C hr hlocks d hrec out n pc' L' S' h' hz)
end ZB
theorem zRun_ok (l : Launch) (D : va_G) (tC : Nat → ClassId) (adr : Nat → Nat) (hinj : zInj adr) : ∀ (d n M : Nat) (x : zE) (as : List Value) (h : zH) (out : Option Value × zH), zP[M]? = some x → (zSl as).length ≤ zx x → zRun n d M 0 (zEnt as (zx x)) [] h = some out → zMet l D tC adr d x as h out.1 out.2 := by
  intro d
  induction d with
  | zero =>
    intro n M x as h out hM hsl hz
    refine zOfW (cc := zb x) (maxL := zx x) (ret := zr x) (zAll zM2 hM) rfl ?_
    intro p e s m args below meth c s₁ B hml hv
    obtain ⟨rfl, hP, hK, hst⟩ := hv
    have hts := atoms_spec (ws := zws x) B.pre
    have hown : s.vm.findClass (zy x).cls = some m.cls := findClass_of_methodNamed B.named
    have h5 : zCn.getD (zo x) "" = (zy x).cls := of_decide_eq_true (zAll zM5 hM)
    have ho : zo x < 15 := Nat.lt_of_not_le fun z => by
      have h6 : zCn.getD (zo x) "" = "" := by rw [List.getD_eq_getElem?_getD, List.getElem?_eq_none (by exact z)]; rfl
      have h7 := zAll zM7 hM
      rw [← h5, h6] at h7
      cases h7
    have C : zCx p (headSpec (zws x) (zrm 0)).room s m (as.map (zcv adr)).toArray c (zb x) (zx x) (zo x) D tC adr (zA adr) none :=
      ⟨B.exec, B.bytes, hml, by rw [h5]; exact hown, ho, fun w hw => hts w (List.mem_cons_of_mem _ hw), hK, hinj, fun k hk => ⟨k, hk, rfl⟩, hst, (fun n xs hz => by cases hz), (by show 1 ≤ 0 + 1; omega), (by show 64 ≤ 64 * (0 + 1); omega)⟩
    rw [lg_entry_eq]
    exact zBody_ok hM C B.returns B.notSynchronized 0 (fun n M x as h out hM hs hz => by cases hz) out n 0 _ [] h hz s.heap [] _ hP va_S.rf (zEnt_R hsl)
  | succ d ih =>
    intro n M x as h out hM hsl hz
    refine zOfW (cc := zb x) (maxL := zx x) (ret := zr x) (zAll zM2 hM) rfl ?_
    intro p e s m args below meth c s₁ B hml hv
    obtain ⟨rfl, hP, hK, hst⟩ := hv
    have hts := atoms_spec (ws := zws x) B.pre
    have hown : s.vm.findClass (zy x).cls = some m.cls := findClass_of_methodNamed B.named
    have h5 : zCn.getD (zo x) "" = (zy x).cls := of_decide_eq_true (zAll zM5 hM)
    have ho : zo x < 15 := Nat.lt_of_not_le fun z => by
      have h6 : zCn.getD (zo x) "" = "" := by rw [List.getD_eq_getElem?_getD, List.getElem?_eq_none (by exact z)]; rfl
      have h7 := zAll zM7 hM
      rw [← h5, h6] at h7
      cases h7
    have C : zCx p (headSpec (zws x) (zrm (d + 1))).room s m (as.map (zcv adr)).toArray c (zb x) (zx x) (zo x) D tC adr (zA adr) none :=
      ⟨B.exec, B.bytes, hml, by rw [h5]; exact hown, ho, fun w hw => hts w (List.mem_cons_of_mem _ hw), hK, hinj, fun k hk => ⟨k, hk, rfl⟩, hst, (fun n xs hz => by cases hz), (by show 1 ≤ d + 1 + 1; omega), (by show 64 ≤ 64 * (d + 1 + 1); omega)⟩
    rw [lg_entry_eq]
    exact zBody_ok hM C B.returns B.notSynchronized (d + 1) (fun n M x as h out hM hs hz => ⟨d, ih n M x as h out hM hs hz, (by show d + 1 + 1 ≤ d + 1 + 1; omega), (by show 49 + 64 * (d + 1) ≤ 64 * (d + 1 + 1); omega)⟩) out n 0 _ [] h hz s.heap [] _ hP va_S.rf (zEnt_R hsl)

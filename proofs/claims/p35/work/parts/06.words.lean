/-! what the tables hold is so: decoded, and among the words -/
/-- the words that a call may ask for again -/
def zTb : List Cond := lw_tbl.filter goodWord
theorem zTb_in {w : Cond} (h : w ∈ lw_tbl) (hg : goodWord w = true) : w ∈ zTb := List.mem_filter.mpr ⟨h, hg⟩
theorem zTb_at {w : Cond} {i : Nat} (h : lw_tbl[i]? = some w) (hg : goodWord w = true) : w ∈ zTb := zTb_in (List.mem_of_getElem? h) hg
theorem zTb_good : GoodIn zTb zTb := fun w h => ⟨h, good_of_word (List.mem_filter.mp h).2⟩
theorem zLaid : (lay.all fun c => match c with
  | .inr (.inr (.inr (t, _))) => Nat.beq t 2 || Nat.beq t 3
  | _ => true) = true := by decide +kernel
/-- a number in an object: its field is no final one, of an int (or of one bit) -/
def zFldOk (c s : Nat) : Bool := match vwCl[c]? with
  | some q => Nat.blt s q.2.2 && (!(q.2.1 s).2.2.2) && decide (parseFieldDescriptor (q.2.1 s).2.2.1 = some (bif zIsB c s then .boolean else .int))
  | none => false
theorem zObj : (lay.all fun c => match c with
  | .inl (c, fs) => (List.range fs.length).all fun s => match fs[s]? with
    | some none => zFldOk c s
    | _ => true
  | _ => true) = true := by decide +kernel
def zFTok (o : Nat) (q : Nat × Nat × Nat × Nat) : Bool := match vwCl[q.2.1]? with
  | some r => Nat.blt q.2.2.1 r.2.2 && decide (lw_tbl[q.2.2.2]? = some (.fieldLink (zCn.getD o "") q.1 (r.2.1 q.2.2.1).1 (r.2.1 q.2.2.1).2.1 (r.2.1 q.2.2.1).2.2.1))
  | none => false
theorem zFTall : ((List.range 15).all fun o => (zFT.getD o []).all (zFTok o)) = true := by decide +kernel
theorem zKTall : ((List.range 15).all fun o => (zKT.getD o []).all fun q => decide (lw_tbl[q.2.2]? = some (.constant (zCn.getD o "") q.1 q.2.1))) = true := by decide +kernel
theorem zJTall : ((List.range 15).all fun o => (zJT.getD o []).all fun q => decide (lw_tbl[q.2.2]? = some (.constantLong (zCn.getD o "") q.1 q.2.1))) = true := by decide +kernel
def zGn : List String := ["NEXT_KIND", "SIZE_BODY", "MARK_BODY"]
theorem zGTall : ((List.range 15).all fun o => (zGT.getD o []).all fun q => Nat.blt q.2.1 3 && decide (lw_tbl[q.2.2]? = some (.fieldLink (zCn.getD o "") q.1 "MapItch$Asks" (zGn.getD q.2.1 "") "[I"))) = true := by decide +kernel
theorem zATall : ((List.range 15).all fun o => (zAT.getD o []).all fun q => decide (lw_tbl[q.2]? = some (.methodLink (zCn.getD o "") q.1 arraycopyName))) = true := by decide +kernel
theorem zACw : Cond.native arraycopyName ∈ lw_tbl ∧ Cond.static arraycopyName ∈ lw_tbl ∧ Cond.initialized "java/lang/System" ∈ lw_tbl := by decide +kernel
theorem zVwAll : (zP.all fun e => Nat.beq (zVw.getD (zo e) 99) 99 || decide ((vwCl.getD (zVw.getD (zo e) 99) ("", fun _ => ("", "", "", true), 0)).1 = (zy e).cls)) = true := by decide +kernel
theorem zM1 : (zP.all fun e => decide (lw_tbl[e.2.1.2]? = some (.initialized (zy e).cls))) = true := by decide +kernel
theorem zM2 : (zP.all fun e => plainFor (zy e)) = true := by decide +kernel
theorem zM3 : (zP.all fun e => decide ((zy e).cls ≠ "java/lang/invoke/MethodHandle") && decide ((zy e).cls ≠ "java/lang/invoke/VarHandle")) = true := by decide +kernel
theorem zM4 : (zP.all fun e => decide ((parseMethodDescriptor (zy e).desc).map (fun d => d.parameters.length) = some (zn e))) = true := by decide +kernel
theorem zM5 : (zP.all fun e => decide (zCn.getD (zo e) "" = (zy e).cls)) = true := by decide +kernel
theorem zM7 : (zP.all fun e => decide ((zy e).cls ≠ "")) = true := by decide +kernel
theorem zM6 : (zP.all fun e => Nat.ble (zx e) 30) = true := by decide +kernel
/-- the table, by steps of 32 -/
def lwD : Nat → List Cond
  | 0 => lw_tbl
  | k + 1 => (lwD k).drop 32
def lwAt (i : Nat) : Option Cond := (lwD (i / 32))[i % 32]?
theorem lwD_eq : ∀ k : Nat, lwD k = lw_tbl.drop (32 * k)
  | 0 => rfl
  | k + 1 => by
    show (lwD k).drop 32 = _
    rw [lwD_eq k, List.drop_drop, show 32 * k + 32 = 32 * (k + 1) by omega]
theorem lwAt_eq (i : Nat) : lwAt i = lw_tbl[i]? := by
  unfold lwAt
  rw [lwD_eq, List.getElem?_drop, Nat.div_add_mod]
def zQok (o : Nat) (q : Nat × Nat × Bool × Nat × Nat × Nat) : Bool := match zP[q.2.1]? with
  | some e => decide (lw_tbl[q.2.2.2.1]? = some (.methodLink (zCn.getD o "") q.1 (zy e))) && bif q.2.2.1 then decide (lw_tbl[q.2.2.2.2.1]? = some (.static (zy e))) else (decide (lw_tbl[q.2.2.2.2.1]? = some (.instanceMethod (zy e))) && decide (lw_tbl[q.2.2.2.2.2]? = some (.selects (zy e).cls (zy e) (zy e))))
  | none => false
def zQokG (look : Nat → Option Cond) (o : Nat) (q : Nat × Nat × Bool × Nat × Nat × Nat) : Bool := match zP[q.2.1]? with
  | some e => decide (look q.2.2.2.1 = some (.methodLink (zCn.getD o "") q.1 (zy e))) && bif q.2.2.1 then decide (look q.2.2.2.2.1 = some (.static (zy e))) else (decide (look q.2.2.2.2.1 = some (.instanceMethod (zy e))) && decide (look q.2.2.2.2.2 = some (.selects (zy e).cls (zy e) (zy e))))
  | none => false
theorem zQall : ((List.range 15).all fun o => (zQT.getD o []).all (zQok o)) = true := by
  have h : ((List.range 15).all fun o => (zQT.getD o []).all (zQokG lwAt o)) = true := by decide +kernel
  rw [show lwAt = fun i => lw_tbl[i]? from funext lwAt_eq] at h
  exact h

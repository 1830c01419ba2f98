/-! the code of each method is among the words -/
def bEq : List UInt8 → List UInt8 → Bool
  | [], [] => true
  | a :: l, b :: m => Nat.beq a.toNat b.toNat && bEq l m
  | _, _ => false
theorem bEq_ok : ∀ (l m : List UInt8), bEq l m = true → l = m
  | [], [], _ => rfl
  | a :: l, b :: m, h => by
    have h : (Nat.beq a.toNat b.toNat && bEq l m) = true := h
    rw [Bool.and_eq_true] at h
    rw [UInt8.toNat_inj.mp (Nat.eq_of_beq_eq_true h.1), bEq_ok l m h.2]
  | [], _ :: _, h => by cases h
  | _ :: _, [], h => by cases h
theorem bEq_b {b c : ByteArray} (h : bEq b.data.toList c.data.toList = true) : b = c := by
  cases b
  cases c
  exact congrArg ByteArray.mk (Array.ext' (bEq_ok _ _ h))
def zWk (e : zE) : Bool := match lw_tbl[e.2.1.1]? with
  | some (.code y b x r) => decide (y = zy e) && bEq b.data.toList (zb e).data.toList && Nat.beq x (zx e) && decide (r = zr e)
  | _ => false
theorem zWk_ok {e : zE} (h : zWk e = true) : lw_tbl[e.2.1.1]? = some (.code (zy e) (zb e) (zx e) (zr e)) := by
  unfold zWk at h
  split at h
  · rename_i y b x r hw
    simp only [Bool.and_eq_true, decide_eq_true_eq] at h
    rw [hw, h.1.1.1, h.2, Nat.eq_of_beq_eq_true h.1.2, bEq_b h.1.1.2]
  · cases h
theorem zWk_0 : ((zP.take 56).all zWk) = true := by decide +kernel
theorem zWk_1 : (((zP.drop 56).take 56).all zWk) = true := by decide +kernel
theorem zWk_2 : (((zP.drop 112).take 56).all zWk) = true := by decide +kernel
theorem zWk_3 : ((zP.drop 168).all zWk) = true := by decide +kernel
theorem all_sp {p : zE → Bool} {l : List zE} (n : Nat) (h1 : (l.take n).all p = true) (h2 : (l.drop n).all p = true) : l.all p = true := by
  rw [← List.take_append_drop n l, List.all_append, h1, h2]
  rfl
theorem zdbAll : zP.all zWk = true := all_sp 56 zWk_0 (all_sp 56 zWk_1 (by
  rw [List.drop_drop]
  exact all_sp 56 zWk_2 (by
    rw [List.drop_drop]
    exact zWk_3)))

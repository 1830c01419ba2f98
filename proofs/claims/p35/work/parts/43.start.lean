/-! the law, from its entry -/
def kLn : Nat → Int32 := upd (upd (upd (upd (upd (upd (upd (upd (fun _ => 0) 0 (-1)) 1 (-1)) 2 (-1)) 3 (-1)) 4 (-1)) 5 (-1)) 6 (-1)) 7 (-1)
def kH0 : zH := (fun q => bif Nat.beq q 12 || Nat.beq q 59 then kLn else fun _ => 0, fun _ _ => 0)
theorem kLn_v (j : Nat) : kLn j = -1 ∨ kLn j = 0 := by
  unfold kLn upd
  repeat' split
  all_goals first | exact Or.inl rfl | exact Or.inr rfl
theorem kTy0 (q j : Nat) : (tTy q j).1 ≤ 0 ∧ 0 ≤ (tTy q j).2 := by
  unfold tTy cTy oTy
  simp only [Bool.cond_eq_ite]
  repeat' split
  all_goals decide
theorem kH0_ty : hTy kH0 := by
  intro q j
  by_cases h12 : q = 12
  · subst h12
    have e : kH0.1 12 j = kLn j := rfl
    have t : tTy 12 j = (iMin, 40) := rfl
    rw [e, t]
    rcases kLn_v j with z | z <;> rw [z] <;> decide
  · by_cases h59 : q = 59
    · subst h59
      have e : kH0.1 59 j = kLn j := rfl
      have t : tTy 59 j = (iMin, iMax) := rfl
      rw [e, t]
      rcases kLn_v j with z | z <;> rw [z] <;> decide
    · have e : kH0.1 q j = 0 := by
        show (bif Nat.beq q 12 || Nat.beq q 59 then kLn else fun _ => 0) j = 0
        have a : Nat.beq q 12 = false := by
          cases hb : Nat.beq q 12 with
          | true => exact absurd (Nat.eq_of_beq_eq_true hb) h12
          | false => rfl
        have b : Nat.beq q 59 = false := by
          cases hb : Nat.beq q 59 with
          | true => exact absurd (Nat.eq_of_beq_eq_true hb) h59
          | false => rfl
        rw [a, b]
        rfl
      rw [e]
      exact kTy0 q j
theorem kInj {adr : Nat → Nat} {tC : Nat → ClassId} {h : zH} {A : Nat → Prop} (hD : va_D A (zW adr tC h)) : zInj adr := fun i j hi hj e => hD.1 i j _ _ (zW_at (List.getElem?_eq_getElem hi)) (zW_at (List.getElem?_eq_getElem hj)) e
theorem kIn {adr : Nat → Nat} {tC : Nat → ClassId} {h : zH} {A : Nat → Prop} (hD : va_D A (zW adr tC h)) : ∀ k, k < lay.length → A (adr k) := fun k hk => hD.2 k _ (zW_at (List.getElem?_eq_getElem hk))
theorem kRows (adr rr : Nat → Nat) (h : ∀ i, i < 8 → adr (3 + i) = rr i) : (fun i : Nat => if i < 8 then some (rr i) else none) = fun j => (([3, 4, 5, 6, 7, 8, 9, 10] : List Nat)[j]?).map adr := by
  funext j
  match j with
  | 0 => exact congrArg some (h 0 (by decide)).symm
  | 1 => exact congrArg some (h 1 (by decide)).symm
  | 2 => exact congrArg some (h 2 (by decide)).symm
  | 3 => exact congrArg some (h 3 (by decide)).symm
  | 4 => exact congrArg some (h 4 (by decide)).symm
  | 5 => exact congrArg some (h 5 (by decide)).symm
  | 6 => exact congrArg some (h 6 (by decide)).symm
  | 7 => exact congrArg some (h 7 (by decide)).symm
  | n + 8 =>
    rw [if_neg (by omega)]
    rfl
theorem kImgs (adr : Nat → Nat) (q q' : Nat) (h0 : adr 31 = q) (h1 : adr 39 = q') : va_up (va_up (fun _ => none) 0 (some q)) 1 (some q') = fun j => (([31, 39] : List Nat)[j]?).map adr := by
  funext j
  match j with
  | 0 => exact congrArg some h0.symm
  | 1 => exact congrArg some h1.symm
  | n + 2 => simp [va_up]
def kAdr (qs : List Nat) (b s0 s1 s2 : Nat) (k : Nat) : Nat := bif Nat.blt k 74 then qs.getD k 0 else bif Nat.beq k 800 then b else bif Nat.beq k 900 then s0 else bif Nat.beq k 901 then s1 else s2
def kTC (cI cL cC cR : ClassId) (k : Nat) : ClassId := [cI, cL, cC, cR].getD k cI
theorem kFin {J : zH → Prop} (hk : ∀ o ∈ lOps, o.2.2.2.2.2.2.1 < 3) (hops : ∀ o ∈ lOps, lSp J 16 o) (hJ0 : J kH0) {p : Program} {e : Env} {s : State} {m : MethodId} {below : List Frame} {meth : Method} {c : Code} (l : Launch) {b L : Nat} {xs : Nat → Int32} (hL : L ≤ 3072) (C0 : lw_At p s m meth c b L xs) {D : va_G} {tC : Nat → ClassId} {adr : Nat → Nat} (hb8 : adr 800 = b) (hSt : zStat adr (fun q => s.heap.size ≤ q) s s.heap) (hts : ∀ w ∈ zTb, w.before #[Value.ref b] s = true) (hK : va_K D vwCl (zTy tC) s) {H : Heap} (hP : va_P D vwCl (zW adr tC kH0) H) (hD : va_D (fun q => s.heap.size ≤ q) (zW adr tC kH0)) {locs : List Loc} (hS : va_S (fun q => s.heap.size ≤ q) s.heap H locs) {ls : Array Slot} (hl : lv_has ls 4 [(0, .ref (adr 800)), (1, .ref (adr 0)), (2, .ref (adr 58)), (3, .int 0)]) : W p l e room_1 s m #[Value.ref b] below meth c H locs 600000 7302250 (lw_Z below #[Value.ref b] s) (F0 m 18 ls []) := by
  obtain ⟨hx, hb, hr, hml, hown, htl, hX, hbl, hlocks, hgv⟩ := id C0
  have C : zCx p room_1 s m #[Value.ref b] c code 4 14 D tC adr (fun q => s.heap.size ≤ q) (some (L, xs)) := ⟨hx, hb, hml, hown, by decide, hts, hK, kInj hD, kIn hD, hSt, fun n xs' h => by cases h; rw [hb8]; exact ⟨hX, hbl, Nat.not_le.mpr hbl⟩, by decide, by decide⟩
  obtain ⟨n, rv, h', hz, rfl⟩ := l_loop (N := L) (xs := xs) (d := 16) hk hops hL L 0 kH0 (by show (L : Int) - 0 ≤ L; omega) (by decide) (by decide) hJ0
  exact zLaw_ok hr hlocks C h' 17 (by decide) n 18 (lL 0) [] kH0 hz H locs ls hP hS ⟨rfl, hl⟩
abbrev kEW (adr rr : Nat → Nat) (tC : Nat → ClassId) : va_W := [(adr 0, .inr (7, [.ref (adr 1), .ref (adr 13), .ref (adr 15), .ref (adr 23), .ref (adr 47), .ref (adr 48), .ref (adr 52), .ref (adr 54), .ref (adr 55), .ref (adr 57), .int 0, .int 0])), (adr 1, .inr (6, [.ref (adr 2), .ref (adr 11), .ref (adr 12)])), (adr 2, .inl (tC 3, 8, .inr (.inr (.inr (.inr (fun i => if i < 8 then some (rr i) else none)))))), (rr 0, .inl (tC 0, 40, .inl (fun _ => 0))), (rr 1, .inl (tC 0, 40, .inl (fun _ => 0))), (rr 2, .inl (tC 0, 40, .inl (fun _ => 0))), (rr 3, .inl (tC 0, 40, .inl (fun _ => 0))), (rr 4, .inl (tC 0, 40, .inl (fun _ => 0))), (rr 5, .inl (tC 0, 40, .inl (fun _ => 0))), (rr 6, .inl (tC 0, 40, .inl (fun _ => 0))), (rr 7, .inl (tC 0, 40, .inl (fun _ => 0))), (adr 11, .inl (tC 0, 8, .inl (fun _ => 0))), (adr 12, .inl (tC 0, 8, .inl kLn)), (adr 13, .inr (5, [.ref (adr 14), .int 0, .int 0, .int 0])), (adr 14, .inl (tC 0, 120, .inl (fun _ => 0))), (adr 15, .inr (2, [.int 0, .int 0, .int 0, .int 0, .int 0, .int 0, .int 0, .int 0, .int 0, .ref (adr 16), .ref (adr 17), .ref (adr 18), .ref (adr 19), .ref (adr 20), .ref (adr 21), .ref (adr 22)])), (adr 16, .inl (tC 0, 3, .inl (fun _ => 0))), (adr 17, .inl (tC 0, 4, .inl (fun _ => 0))), (adr 18, .inl (tC 0, 4, .inl (fun _ => 0))), (adr 19, .inl (tC 0, 4, .inl (fun _ => 0))), (adr 20, .inl (tC 0, 4, .inl (fun _ => 0))), (adr 21, .inl (tC 0, 4, .inl (fun _ => 0))), (adr 22, .inl (tC 0, 4, .inl (fun _ => 0))), (adr 23, .inr (2, [.int 0, .int 0, .int 0, .int 0, .int 0, .int 0, .int 0, .int 0, .int 0, .ref (adr 24), .ref (adr 25), .ref (adr 26), .ref (adr 27), .ref (adr 28), .ref (adr 29), .ref (adr 30)])), (adr 24, .inl (tC 0, 3, .inl (fun _ => 0))), (adr 25, .inl (tC 0, 4, .inl (fun _ => 0))), (adr 26, .inl (tC 0, 4, .inl (fun _ => 0))), (adr 27, .inl (tC 0, 4, .inl (fun _ => 0))), (adr 28, .inl (tC 0, 4, .inl (fun _ => 0))), (adr 29, .inl (tC 0, 4, .inl (fun _ => 0))), (adr 30, .inl (tC 0, 4, .inl (fun _ => 0))), (adr 47, .inl (tC 2, 2, .inr (.inr (.inr (.inr (va_up (va_up (fun _ => none) 0 (some (adr 31))) 1 (some (adr 39)))))))), (adr 31, .inr (2, [.int 0, .int 0, .int 0, .int 0, .int 0, .int 0, .int 0, .int 0, .int 0, .ref (adr 32), .ref (adr 33), .ref (adr 34), .ref (adr 35), .ref (adr 36), .ref (adr 37), .ref (adr 38)])), (adr 32, .inl (tC 0, 3, .inl (fun _ => 0))), (adr 33, .inl (tC 0, 4, .inl (fun _ => 0))), (adr 34, .inl (tC 0, 4, .inl (fun _ => 0))), (adr 35, .inl (tC 0, 4, .inl (fun _ => 0))), (adr 36, .inl (tC 0, 4, .inl (fun _ => 0))), (adr 37, .inl (tC 0, 4, .inl (fun _ => 0))), (adr 38, .inl (tC 0, 4, .inl (fun _ => 0))), (adr 39, .inr (2, [.int 0, .int 0, .int 0, .int 0, .int 0, .int 0, .int 0, .int 0, .int 0, .ref (adr 40), .ref (adr 41), .ref (adr 42), .ref (adr 43), .ref (adr 44), .ref (adr 45), .ref (adr 46)])), (adr 40, .inl (tC 0, 3, .inl (fun _ => 0))), (adr 41, .inl (tC 0, 4, .inl (fun _ => 0))), (adr 42, .inl (tC 0, 4, .inl (fun _ => 0))), (adr 43, .inl (tC 0, 4, .inl (fun _ => 0))), (adr 44, .inl (tC 0, 4, .inl (fun _ => 0))), (adr 45, .inl (tC 0, 4, .inl (fun _ => 0))), (adr 46, .inl (tC 0, 4, .inl (fun _ => 0))), (adr 48, .inr (0, [.ref (adr 49), .ref (adr 50), .ref (adr 51), .int 0, .int 0])), (adr 49, .inl (tC 0, 24, .inl (fun _ => 0))), (adr 50, .inl (tC 0, 24, .inl (fun _ => 0))), (adr 51, .inl (tC 0, 24, .inl (fun _ => 0))), (adr 52, .inr (1, [.ref (adr 53), .int 0])), (adr 53, .inl (tC 0, 16, .inl (fun _ => 0))), (adr 54, .inr (4, [.int 0, .int 0, .int 0])), (adr 55, .inr (3, [.ref (adr 56), .int 0, .int 0])), (adr 56, .inl (tC 0, 15, .inl (fun _ => 0))), (adr 57, .inl (tC 0, 4, .inl (fun _ => 0))), (adr 58, .inr (8, [.ref (adr 59), .ref (adr 60), .ref (adr 61), .int 0, .ref (adr 62), .int 0, .int 0, .int 0, .int 0, .ref (adr 63), .ref (adr 64), .ref (adr 65), .int 0, .int 0, .ref (adr 66), .ref (adr 67), .ref (adr 68), .ref (adr 69), .int 0, .int 0, .int 0, .ref (adr 70), .ref (adr 71), .ref (adr 72), .ref (adr 73), .int 0])), (adr 59, .inl (tC 0, 8, .inl kLn)), (adr 60, .inl (tC 0, 8, .inl (fun _ => 0))), (adr 61, .inl (tC 0, 320, .inl (fun _ => 0))), (adr 62, .inl (tC 0, 120, .inl (fun _ => 0))), (adr 63, .inl (tC 0, 62, .inl (fun _ => 0))), (adr 64, .inl (tC 0, 62, .inl (fun _ => 0))), (adr 65, .inl (tC 0, 1488, .inl (fun _ => 0))), (adr 66, .inl (tC 0, 4, .inl (fun _ => 0))), (adr 67, .inl (tC 0, 62, .inl (fun _ => 0))), (adr 68, .inl (tC 0, 62, .inl (fun _ => 0))), (adr 69, .inl (tC 0, 2, .inl (fun _ => 0))), (adr 70, .inl (tC 0, 15, .inl (fun _ => 0))), (adr 71, .inl (tC 1, 4, .inr (.inl (fun _ => 0)))), (adr 72, .inl (tC 0, 124, .inl (fun _ => 0))), (adr 73, .inl (tC 0, 16, .inl (fun _ => 0)))]
theorem kH0_12 : kH0.1 12 = kLn := rfl
theorem kH0_59 : kH0.1 59 = kLn := rfl
def kFs (adr : Nat → Nat) (f : Nat → Int32) : Nat → List (Option Nat) → List Value
  | _, [] => []
  | j, none :: r => .int (f j) :: kFs adr f (j + 1) r
  | j, some q :: r => .ref (adr q) :: kFs adr f (j + 1) r
theorem kFs_eq (adr : Nat → Nat) (f : Nat → Int32) : ∀ (fs : List (Option Nat)) (j : Nat), fs.mapIdx (fun i x => match x with
    | none => Value.int (f (i + j))
    | some q => .ref (adr q)) = kFs adr f j fs
  | [], j => rfl
  | x :: r, j => by
    rw [List.mapIdx_cons]
    have e : (fun i (x : Option Nat) => match x with
      | none => Value.int (f (i + 1 + j))
      | some q => .ref (adr q)) = (fun i (x : Option Nat) => match x with
      | none => Value.int (f (i + (j + 1)))
      | some q => .ref (adr q)) := by
      funext i x
      cases x with
      | none => rw [show i + 1 + j = i + (j + 1) by omega]
      | some q => rfl
    cases x with
    | none =>
      show Value.int (f (0 + j)) :: _ = Value.int (f j) :: kFs adr f (j + 1) r
      rw [Nat.zero_add, e, kFs_eq adr f r (j + 1)]
    | some q =>
      show Value.ref (adr q) :: _ = Value.ref (adr q) :: kFs adr f (j + 1) r
      rw [e, kFs_eq adr f r (j + 1)]
theorem kObj {adr : Nat → Nat} {tC : Nat → ClassId} {h : zH} {k c : Nat} {fs : List (Option Nat)} (hk : lay[k]? = some (.inl (c, fs))) : (zW adr tC h)[k]? = some (adr k, .inr (c, kFs adr (h.1 k) 0 fs)) := by
  rw [zW_at hk]
  exact congrArg (fun l => some ((adr k, .inr (c, l)) : Nat × va_E)) (kFs_eq adr (h.1 k) fs 0)
def kPm : List Nat := [0, 1, 2, 3, 4, 5, 6, 7, 8, 9, 10, 11, 12, 13, 14, 15, 16, 17, 18, 19, 20, 21, 22, 23, 24, 25, 26, 27, 28, 29, 30, 32, 33, 34, 35, 36, 37, 38, 39, 40, 41, 42, 43, 44, 45, 46, 47, 31, 48, 49, 50, 51, 52, 53, 54, 55, 56, 57, 58, 59, 60, 61, 62, 63, 64, 65, 66, 67, 68, 69, 70, 71, 72, 73]
theorem kPm_inj : ((List.range 74).all fun i => (List.range 74).all fun j => !(Nat.beq (kPm.getD i 0) (kPm.getD j 0)) || Nat.beq i j) = true := by decide +kernel
set_option maxHeartbeats 4000000 in
set_option maxRecDepth 100000 in
theorem kZat (adr rr : Nat → Nat) (tC : Nat → ClassId) (hr : ∀ i, i < 8 → adr (3 + i) = rr i) : ∀ k : Nat, k < 74 → (zW adr tC kH0)[k]? = (kEW adr rr tC)[kPm.getD k 0]? := by
  intro k hk
  match k, hk with
  | 0, _ => exact kObj (k := 0) rfl
  | 1, _ => exact kObj (k := 1) rfl
  | 2, _ => exact (zW_at (k := 2) rfl).trans (congrArg (fun f => some ((adr 2, .inl (tC 3, 8, .inr (.inr (.inr (.inr f))))) : Nat × va_E)) (kRows adr rr hr).symm)
  | 3, _ => exact (zW_at (k := 3) rfl).trans (congrArg (fun a => some ((a, .inl (tC 0, 40, .inl (fun _ => 0))) : Nat × va_E)) (hr 0 (by decide)))
  | 4, _ => exact (zW_at (k := 4) rfl).trans (congrArg (fun a => some ((a, .inl (tC 0, 40, .inl (fun _ => 0))) : Nat × va_E)) (hr 1 (by decide)))
  | 5, _ => exact (zW_at (k := 5) rfl).trans (congrArg (fun a => some ((a, .inl (tC 0, 40, .inl (fun _ => 0))) : Nat × va_E)) (hr 2 (by decide)))
  | 6, _ => exact (zW_at (k := 6) rfl).trans (congrArg (fun a => some ((a, .inl (tC 0, 40, .inl (fun _ => 0))) : Nat × va_E)) (hr 3 (by decide)))
  | 7, _ => exact (zW_at (k := 7) rfl).trans (congrArg (fun a => some ((a, .inl (tC 0, 40, .inl (fun _ => 0))) : Nat × va_E)) (hr 4 (by decide)))
  | 8, _ => exact (zW_at (k := 8) rfl).trans (congrArg (fun a => some ((a, .inl (tC 0, 40, .inl (fun _ => 0))) : Nat × va_E)) (hr 5 (by decide)))
  | 9, _ => exact (zW_at (k := 9) rfl).trans (congrArg (fun a => some ((a, .inl (tC 0, 40, .inl (fun _ => 0))) : Nat × va_E)) (hr 6 (by decide)))
  | 10, _ => exact (zW_at (k := 10) rfl).trans (congrArg (fun a => some ((a, .inl (tC 0, 40, .inl (fun _ => 0))) : Nat × va_E)) (hr 7 (by decide)))
  | 11, _ => exact zW_at (k := 11) rfl
  | 12, _ => exact (zW_at (k := 12) rfl).trans (congrArg (fun f => some ((adr 12, .inl (tC 0, 8, .inl f)) : Nat × va_E)) kH0_12)
  | 13, _ => exact kObj (k := 13) rfl
  | 14, _ => exact zW_at (k := 14) rfl
  | 15, _ => exact kObj (k := 15) rfl
  | 16, _ => exact zW_at (k := 16) rfl
  | 17, _ => exact zW_at (k := 17) rfl
  | 18, _ => exact zW_at (k := 18) rfl
  | 19, _ => exact zW_at (k := 19) rfl
  | 20, _ => exact zW_at (k := 20) rfl
  | 21, _ => exact zW_at (k := 21) rfl
  | 22, _ => exact zW_at (k := 22) rfl
  | 23, _ => exact kObj (k := 23) rfl
  | 24, _ => exact zW_at (k := 24) rfl
  | 25, _ => exact zW_at (k := 25) rfl
  | 26, _ => exact zW_at (k := 26) rfl
  | 27, _ => exact zW_at (k := 27) rfl
  | 28, _ => exact zW_at (k := 28) rfl
  | 29, _ => exact zW_at (k := 29) rfl
  | 30, _ => exact zW_at (k := 30) rfl
  | 31, _ => exact kObj (k := 31) rfl
  | 32, _ => exact zW_at (k := 32) rfl
  | 33, _ => exact zW_at (k := 33) rfl
  | 34, _ => exact zW_at (k := 34) rfl
  | 35, _ => exact zW_at (k := 35) rfl
  | 36, _ => exact zW_at (k := 36) rfl
  | 37, _ => exact zW_at (k := 37) rfl
  | 38, _ => exact zW_at (k := 38) rfl
  | 39, _ => exact kObj (k := 39) rfl
  | 40, _ => exact zW_at (k := 40) rfl
  | 41, _ => exact zW_at (k := 41) rfl
  | 42, _ => exact zW_at (k := 42) rfl
  | 43, _ => exact zW_at (k := 43) rfl
  | 44, _ => exact zW_at (k := 44) rfl
  | 45, _ => exact zW_at (k := 45) rfl
  | 46, _ => exact zW_at (k := 46) rfl
  | 47, _ => exact (zW_at (k := 47) rfl).trans (congrArg (fun f => some ((adr 47, .inl (tC 2, 2, .inr (.inr (.inr (.inr f))))) : Nat × va_E)) (kImgs adr (adr 31) (adr 39) rfl rfl).symm)
  | 48, _ => exact kObj (k := 48) rfl
  | 49, _ => exact zW_at (k := 49) rfl
  | 50, _ => exact zW_at (k := 50) rfl
  | 51, _ => exact zW_at (k := 51) rfl
  | 52, _ => exact kObj (k := 52) rfl
  | 53, _ => exact zW_at (k := 53) rfl
  | 54, _ => exact kObj (k := 54) rfl
  | 55, _ => exact kObj (k := 55) rfl
  | 56, _ => exact zW_at (k := 56) rfl
  | 57, _ => exact zW_at (k := 57) rfl
  | 58, _ => exact kObj (k := 58) rfl
  | 59, _ => exact (zW_at (k := 59) rfl).trans (congrArg (fun f => some ((adr 59, .inl (tC 0, 8, .inl f)) : Nat × va_E)) kH0_59)
  | 60, _ => exact zW_at (k := 60) rfl
  | 61, _ => exact zW_at (k := 61) rfl
  | 62, _ => exact zW_at (k := 62) rfl
  | 63, _ => exact zW_at (k := 63) rfl
  | 64, _ => exact zW_at (k := 64) rfl
  | 65, _ => exact zW_at (k := 65) rfl
  | 66, _ => exact zW_at (k := 66) rfl
  | 67, _ => exact zW_at (k := 67) rfl
  | 68, _ => exact zW_at (k := 68) rfl
  | 69, _ => exact zW_at (k := 69) rfl
  | 70, _ => exact zW_at (k := 70) rfl
  | 71, _ => exact zW_at (k := 71) rfl
  | 72, _ => exact zW_at (k := 72) rfl
  | 73, _ => exact zW_at (k := 73) rfl
  | k + 74, h => exact absurd h (by omega)
theorem kZP {adr rr : Nat → Nat} {tC : Nat → ClassId} {D : va_G} {H : Heap} (hr : ∀ i, i < 8 → adr (3 + i) = rr i) (hP : va_P D vwCl (kEW adr rr tC) H) : va_P D vwCl (zW adr tC kH0) H := fun k q hq => hP (kPm.getD k 0) q ((kZat adr rr tC hr k (zW_of hq).1).symm.trans hq)
theorem kZD {adr rr : Nat → Nat} {tC : Nat → ClassId} {A : Nat → Prop} (hr : ∀ i, i < 8 → adr (3 + i) = rr i) (hD : va_D A (kEW adr rr tC)) : va_D A (zW adr tC kH0) := by
  refine ⟨fun i j x y hx hy e => ?_, fun k q hq => hD.2 (kPm.getD k 0) q ((kZat adr rr tC hr k (zW_of hq).1).symm.trans hq)⟩
  have hi : i < 74 := (zW_of hx).1
  have hj : j < 74 := (zW_of hy).1
  have h := hD.1 _ _ x y ((kZat adr rr tC hr i hi).symm.trans hx) ((kZat adr rr tC hr j hj).symm.trans hy) e
  have t := List.all_eq_true.mp (List.all_eq_true.mp kPm_inj i (List.mem_range.mpr hi)) j (List.mem_range.mpr hj)
  rw [h, Nat.beq_refl] at t
  exact Nat.eq_of_beq_eq_true t
theorem kd_law_0 : decode code 0 = .ok (.new 7, 3) := by decide +kernel
theorem kd_law_3 : decode code 3 = .ok (.dup, 1) := by decide +kernel
theorem kd_law_4 : decode code 4 = .ok (.invokespecial 9, 3) := by decide +kernel
theorem kd_law_7 : decode code 7 = .ok (.astore_n 1, 1) := by decide +kernel
theorem kd_law_8 : decode code 8 = .ok (.new 10, 3) := by decide +kernel
theorem kd_law_11 : decode code 11 = .ok (.dup, 1) := by decide +kernel
theorem kd_law_12 : decode code 12 = .ok (.invokespecial 12, 3) := by decide +kernel
theorem kd_law_15 : decode code 15 = .ok (.astore_n 2, 1) := by decide +kernel
theorem kd_law_16 : decode code 16 = .ok (.iconst 0, 1) := by decide +kernel
theorem kd_law_17 : decode code 17 = .ok (.istore_n 3, 1) := by decide +kernel
set_option maxHeartbeats 4000000 in
set_option maxRecDepth 100000 in
/-- THE LAW, from its entry -/
theorem whole_start {J : zH → Prop} (hk : ∀ o ∈ lOps, o.2.2.2.2.2.2.1 < 3) (hops : ∀ o ∈ lOps, lSp J 16 o) (hJ0 : J kH0) {p : Program} {e : Env} {s : State} {m : MethodId} {below : List Frame} {meth : Method} {c : Code} (l : Launch) {b L : Nat} {xs : Nat → Int32} (hL : L ≤ 3072) (C0 : lw_At p s m meth c b L xs) : W p l e room_1 s m #[Value.ref b] below meth c s.heap [] 0 0 (lw_Z below #[Value.ref b] s) (entryFrame m ([Value.ref b] : List Value).toArray 4) := by
  obtain ⟨hx, hb, hr, hml, hown, htl, hX, hbl, hlocks, hgv⟩ := id C0
  have hts : ∀ w ∈ zTb, w.before #[Value.ref b] s = true := fun w hw => htl w (List.mem_filter.mp hw).1
  have hgs := flat_of_before _ hgv
  obtain ⟨c0, i0, hK0⟩ := u_known (C := RX0) (T := TX0) (N := 5) (n := 5) hts (zCls 0 _ rfl).1 (hts (.instantiable RX0 5) (zTb_at (i := 208) (by decide +kernel) (by decide +kernel)))
  obtain ⟨c1, i1, hK1⟩ := u_known (C := RX1) (T := TX1) (N := 2) (n := 2) hts (zCls 1 _ rfl).1 (hts (.instantiable RX1 2) (zTb_at (i := 231) (by decide +kernel) (by decide +kernel)))
  obtain ⟨c2, i2, hK2⟩ := u_known (C := RX2) (T := TX2) (N := 16) (n := 16) hts (zCls 2 _ rfl).1 (hts (.instantiable RX2 16) (zTb_at (i := 122) (by decide +kernel) (by decide +kernel)))
  obtain ⟨c3, i3, hK3⟩ := u_known (C := RX3) (T := TX3) (N := 3) (n := 3) hts (zCls 3 _ rfl).1 (hts (.instantiable RX3 3) (zTb_at (i := 263) (by decide +kernel) (by decide +kernel)))
  obtain ⟨c4, i4, hK4⟩ := u_known (C := RX5) (T := TX5) (N := 3) (n := 3) hts (zCls 4 _ rfl).1 (hts (.instantiable RX5 3) (zTb_at (i := 244) (by decide +kernel) (by decide +kernel)))
  obtain ⟨c5, i5, hK5⟩ := u_known (C := RX7) (T := TX7) (N := 4) (n := 4) hts (zCls 5 _ rfl).1 (hts (.instantiable RX7 4) (zTb_at (i := 100) (by decide +kernel) (by decide +kernel)))
  obtain ⟨c6, i6, hK6⟩ := u_known (C := RX8) (T := TX8) (N := 3) (n := 3) hts (zCls 6 _ rfl).1 (hts (.instantiable RX8 3) (zTb_at (i := 81) (by decide +kernel) (by decide +kernel)))
  obtain ⟨c7, i7, hK7⟩ := u_known (C := RX9) (T := TX9) (N := 12) (n := 12) hts (zCls 7 _ rfl).1 (hts (.instantiable RX9 12) (zTb_at (i := 73) (by decide +kernel) (by decide +kernel)))
  obtain ⟨c8, i8, hK8⟩ := u_known (C := RX10) (T := TX10) (N := 26) (n := 26) hts (zCls 8 _ rfl).1 (hts (.instantiable RX10 26) (zTb_at (i := 851) (by decide +kernel) (by decide +kernel)))
  obtain ⟨D, hKc⟩ : ∃ D : va_G, ∀ (k : Nat) (q : vw_C), vwCl[k]? = some q → u_Kn s q.1 q.2.1 q.2.2 (D.1 k) (D.2 k) := by
    refine ⟨(fun k => [c0, c1, c2, c3, c4, c5, c6, c7, c8].getD k c0, fun k => [i0, i1, i2, i3, i4, i5, i6, i7, i8].getD k i0), ?_⟩
    intro k q hq
    match k, hq with
    | 0, hq => cases hq; exact hK0
    | 1, hq => cases hq; exact hK1
    | 2, hq => cases hq; exact hK2
    | 3, hq => cases hq; exact hK3
    | 4, hq => cases hq; exact hK4
    | 5, hq => cases hq; exact hK5
    | 6, hq => cases hq; exact hK6
    | 7, hq => cases hq; exact hK7
    | 8, hq => cases hq; exact hK8
    | k + 9, hq => simp [vwCl] at hq
  clear hK0 hK1 hK2 hK3 hK4 hK5 hK6 hK7 hK8
  obtain ⟨cI, hI1, hI2⟩ := zKI (hts (.arrayClass .int) (zTb_at (i := 98) (by decide +kernel) (by decide +kernel)))
  have hK : va_K D vwCl [(cI, .int)] s := ⟨hKc, fun k q h => by
    match k, h with
    | 0, h => cases h; exact ⟨hI1, hI2⟩
    | k + 1, h => simp at h⟩
  have hEx : kEx s := ⟨(htl (.arrayOver (.array .int)) (List.mem_of_getElem? (i := 87) (by decide +kernel))), va_AO.of (htl (.arrayOver (.object RX2)) (List.mem_of_getElem? (i := 206) (by decide +kernel))), va_Nw.of rfl (htl (.methodLinkNest RX9 18 yX7_init RX9) (List.mem_of_getElem? (i := 101) (by decide +kernel))), va_Nw.of rfl (htl (.methodLinkNest RX9 25 yX2_init RX9) (List.mem_of_getElem? (i := 123) (by decide +kernel))), va_Nw.of rfl (htl (.methodLinkNest RX9 39 yX0_init RX9) (List.mem_of_getElem? (i := 209) (by decide +kernel))), va_Nw.of rfl (htl (.methodLinkNest RX9 46 yX1_init RX9) (List.mem_of_getElem? (i := 232) (by decide +kernel))), va_Nw.of rfl (htl (.methodLinkNest RX9 53 yX5_init RX9) (List.mem_of_getElem? (i := 245) (by decide +kernel))), va_Nw.of rfl (htl (.methodLinkNest RX9 60 yX3_init RX9) (List.mem_of_getElem? (i := 264) (by decide +kernel)))⟩
  obtain ⟨t0, hZ0⟩ := zSt (args := #[Value.ref b]) (s := s) (n := "NEXT_KIND") (f := zs0) (A := fun q => s.heap.size ≤ q) (htl _ (List.mem_of_getElem? (i := 799) (by decide +kernel))) (htl _ (List.mem_of_getElem? (i := 63) (by decide +kernel))) (hgs _ (by decide +kernel)) (hgs _ (by decide +kernel)) (fin6 (P := fun j => (Cond.eq (.elem (.static "MapItch$Asks" "NEXT_KIND" "[I") (.int (Int32.ofNat j))) (.int (zs0 j))).before #[Value.ref b] s = true) (hgs _ (by decide +kernel)) (hgs _ (by decide +kernel)) (hgs _ (by decide +kernel)) (hgs _ (by decide +kernel)) (hgs _ (by decide +kernel)) (hgs _ (by decide +kernel))) (fun a h => Nat.not_le.mpr h)
  obtain ⟨t1, hZ1⟩ := zSt (args := #[Value.ref b]) (s := s) (n := "SIZE_BODY") (f := zs1) (A := fun q => s.heap.size ≤ q) (htl _ (List.mem_of_getElem? (i := 813) (by decide +kernel))) (htl _ (List.mem_of_getElem? (i := 63) (by decide +kernel))) (hgs _ (by decide +kernel)) (hgs _ (by decide +kernel)) (fin6 (P := fun j => (Cond.eq (.elem (.static "MapItch$Asks" "SIZE_BODY" "[I") (.int (Int32.ofNat j))) (.int (zs1 j))).before #[Value.ref b] s = true) (hgs _ (by decide +kernel)) (hgs _ (by decide +kernel)) (hgs _ (by decide +kernel)) (hgs _ (by decide +kernel)) (hgs _ (by decide +kernel)) (hgs _ (by decide +kernel))) (fun a h => Nat.not_le.mpr h)
  obtain ⟨t2, hZ2⟩ := zSt (args := #[Value.ref b]) (s := s) (n := "MARK_BODY") (f := zs2) (A := fun q => s.heap.size ≤ q) (htl _ (List.mem_of_getElem? (i := 818) (by decide +kernel))) (htl _ (List.mem_of_getElem? (i := 63) (by decide +kernel))) (hgs _ (by decide +kernel)) (hgs _ (by decide +kernel)) (fin6 (P := fun j => (Cond.eq (.elem (.static "MapItch$Asks" "MARK_BODY" "[I") (.int (Int32.ofNat j))) (.int (zs2 j))).before #[Value.ref b] s = true) (hgs _ (by decide +kernel)) (hgs _ (by decide +kernel)) (hgs _ (by decide +kernel)) (hgs _ (by decide +kernel)) (hgs _ (by decide +kernel)) (hgs _ (by decide +kernel))) (fun a h => Nat.not_le.mpr h)
  clear hgs
  obtain ⟨A, hAe⟩ : ∃ A : Nat → Prop, A = (fun q => s.heap.size ≤ q) := ⟨_, rfl⟩
  have hA : ∀ q : Nat, s.heap.size ≤ q → A q := fun q h => by rw [hAe]; exact h
  have hS : va_S A s.heap s.heap [] := va_S.rf
  have hP : va_P D vwCl [] s.heap := fun k q h => by simp at h
  have hD : va_D A [] := ⟨fun i j p q h => by simp at h, fun k q h => by simp at h⟩
  have hl := lv_entry ([.ref b]) (n := 4) (Nat.le_of_ble_eq_true rfl)
  rw [lg_entry_eq]
  generalize (lg_sl ([.ref b]) ++ List.replicate (4 - (lg_sl ([.ref b])).length) Slot.unset).toArray = ls at hl ⊢
  have hl : lv_has ls 4 [(0, .ref b)] := hl
  refine va_new (ci := 7) (fs := [.null, .null, .null, .null, .null, .null, .null, .null, .null, .null, .int 0, .int 0]) (C := RX9) (T := TX9) (N := 12) hx hb hts (fun w h => (zCls 7 _ rfl).1 w h) tyX9 tyX9_ok hown (hts (.classLink R_law 7 RX9) (zTb_at (i := 72) (by decide +kernel) (by decide +kernel))) (hts (.instantiable RX9 12) (zTb_at (i := 73) (by decide +kernel) (by decide +kernel))) (hts (.initialized RX9) (zTb_at (i := 58) (by decide +kernel) (by decide +kernel))) hK hP hD hS hA rfl (by decide +kernel) (Nat.le_of_ble_eq_true rfl) (Nat.le_of_ble_eq_true rfl) kd_law_0 (fun q1 H hP hD hS => ?_)
  have hP : va_P D vwCl [(q1, .inr (7, [.null, .null, .null, .null, .null, .null, .null, .null, .null, .null, .int 0, .int 0]))] H := hP
  have hD : va_D A [(q1, .inr (7, [.null, .null, .null, .null, .null, .null, .null, .null, .null, .null, .int 0, .int 0]))] := hD
  refine W.widen (k := 1) (n := 12) (Nat.le_of_ble_eq_true rfl) (Nat.le_of_ble_eq_true rfl) ?_
  refine lv_dup hx hb kd_law_3 rfl ?_
  have hPc := hP.sub (ws' := [(q1, .inr (7, [.null, .null, .null, .null, .null, .null, .null, .null, .null, .null, .int 0, .int 0]))]) [0] rfl
  have hDc := hD.sub (ws' := [(q1, .inr (7, [.null, .null, .null, .null, .null, .null, .null, .null, .null, .null, .int 0, .int 0]))]) [0] (by decide) rfl
  have hKc := hK.sub (tys' := [(cI, .int)]) [0] rfl
  have hFc := va_free (wc := [(q1, .inr (7, [.null, .null, .null, .null, .null, .null, .null, .null, .null, .null, .int 0, .int 0]))]) hD hS hA [0] rfl
  refine va_callv (va_runI (As := []) (rest := [.ref q1]) ⟨hx, hb, hml, hown, hts⟩ (k_X9 l D cI q1 H.size) (cwI 0 hts (kgoodL (zTb_at (i := 76) (by decide +kernel) (by decide +kernel))) rfl rfl rfl (hts (.initialized RX9) (zTb_at (i := 58) (by decide +kernel) (by decide +kernel))) (hts (.methodLink R_law 9 yX9_init) (zTb_at (i := 74) (by decide +kernel) (by decide +kernel))) (hts (.instanceMethod yX9_init) (zTb_at (i := 75) (by decide +kernel) (by decide +kernel))) rfl (by decide +kernel) ⟨Nat.le_of_ble_eq_true rfl, Nat.le_of_ble_eq_true rfl⟩) ⟨fun a U g mk q => by obtain ⟨q0, q1, qP, qK, qD, qE⟩ := q; exact ⟨q0, q1, qP, va_K.moved (u := U) (U := U.calling g mk a) (Vm.Alike.refl U.vm) qK, qD, kEx.same (u := U) (U := U.calling g mk a) rfl qE⟩, fun U hU hW => ⟨rfl, by rw [hU], by rw [hU]; exact hPc, va_K.moved hW.alike hKc, hDc.weaken (fun _ _ _ _ => trivial), kEx.warm hW hEx⟩⟩ rfl rfl hl.1 rfl (lv_room (Nat.le_of_ble_eq_true rfl)) kd_law_4 ⟨Nat.le_of_ble_eq_true rfl, Nat.le_of_ble_eq_true rfl⟩) hS (fun q _ h => hFc q h) hFc (fun u t H1 locs ht hvm hw hB hz1 hk1 hS => ?_)
  obtain ⟨q2, q3, cR4, rr5, q6, q7, q8, q9, q10, q11, q12, q13, q14, q15, q16, q17, q18, q19, q20, q21, q22, q23, q24, q25, q26, cC27, q28, q29, q30, q31, q32, q33, q34, q35, q36, q37, q38, q39, q40, q41, q42, q43, q44, q45, q46, q47, q48, q49, q50, q51, q52, q53, hP1, hK1, hD1⟩ := hB
  rw [ht] at hP1
  obtain ⟨hP, hD⟩ := va_join (wr := []) (w1 := [(q1, .inr (7, [.ref q2, .ref q8, .ref q10, .ref q18, .ref q26, .ref q44, .ref q48, .ref q50, .ref q51, .ref q53, .int 0, .int 0])), (q2, .inr (6, [.ref q3, .ref q6, .ref q7])), (q3, .inl (cR4, 8, .inr (.inr (.inr (.inr (fun i => if i < 8 then some (rr5 i) else none)))))), (rr5 0, .inl (cI, 40, .inl (fun _ => 0))), (rr5 1, .inl (cI, 40, .inl (fun _ => 0))), (rr5 2, .inl (cI, 40, .inl (fun _ => 0))), (rr5 3, .inl (cI, 40, .inl (fun _ => 0))), (rr5 4, .inl (cI, 40, .inl (fun _ => 0))), (rr5 5, .inl (cI, 40, .inl (fun _ => 0))), (rr5 6, .inl (cI, 40, .inl (fun _ => 0))), (rr5 7, .inl (cI, 40, .inl (fun _ => 0))), (q6, .inl (cI, 8, .inl (fun _ => 0))), (q7, .inl (cI, 8, .inl (upd (upd (upd (upd (upd (upd (upd (upd (fun _ => 0) 0 (-1)) 1 (-1)) 2 (-1)) 3 (-1)) 4 (-1)) 5 (-1)) 6 (-1)) 7 (-1)))), (q8, .inr (5, [.ref q9, .int 0, .int 0, .int 0])), (q9, .inl (cI, 120, .inl (fun _ => 0))), (q10, .inr (2, [.int 0, .int 0, .int 0, .int 0, .int 0, .int 0, .int 0, .int 0, .int 0, .ref q11, .ref q12, .ref q13, .ref q14, .ref q15, .ref q16, .ref q17])), (q11, .inl (cI, 3, .inl (fun _ => 0))), (q12, .inl (cI, 4, .inl (fun _ => 0))), (q13, .inl (cI, 4, .inl (fun _ => 0))), (q14, .inl (cI, 4, .inl (fun _ => 0))), (q15, .inl (cI, 4, .inl (fun _ => 0))), (q16, .inl (cI, 4, .inl (fun _ => 0))), (q17, .inl (cI, 4, .inl (fun _ => 0))), (q18, .inr (2, [.int 0, .int 0, .int 0, .int 0, .int 0, .int 0, .int 0, .int 0, .int 0, .ref q19, .ref q20, .ref q21, .ref q22, .ref q23, .ref q24, .ref q25])), (q19, .inl (cI, 3, .inl (fun _ => 0))), (q20, .inl (cI, 4, .inl (fun _ => 0))), (q21, .inl (cI, 4, .inl (fun _ => 0))), (q22, .inl (cI, 4, .inl (fun _ => 0))), (q23, .inl (cI, 4, .inl (fun _ => 0))), (q24, .inl (cI, 4, .inl (fun _ => 0))), (q25, .inl (cI, 4, .inl (fun _ => 0))), (q26, .inl (cC27, 2, .inr (.inr (.inr (.inr (va_up (va_up (fun _ => none) 0 (some q28)) 1 (some q36))))))), (q28, .inr (2, [.int 0, .int 0, .int 0, .int 0, .int 0, .int 0, .int 0, .int 0, .int 0, .ref q29, .ref q30, .ref q31, .ref q32, .ref q33, .ref q34, .ref q35])), (q29, .inl (cI, 3, .inl (fun _ => 0))), (q30, .inl (cI, 4, .inl (fun _ => 0))), (q31, .inl (cI, 4, .inl (fun _ => 0))), (q32, .inl (cI, 4, .inl (fun _ => 0))), (q33, .inl (cI, 4, .inl (fun _ => 0))), (q34, .inl (cI, 4, .inl (fun _ => 0))), (q35, .inl (cI, 4, .inl (fun _ => 0))), (q36, .inr (2, [.int 0, .int 0, .int 0, .int 0, .int 0, .int 0, .int 0, .int 0, .int 0, .ref q37, .ref q38, .ref q39, .ref q40, .ref q41, .ref q42, .ref q43])), (q37, .inl (cI, 3, .inl (fun _ => 0))), (q38, .inl (cI, 4, .inl (fun _ => 0))), (q39, .inl (cI, 4, .inl (fun _ => 0))), (q40, .inl (cI, 4, .inl (fun _ => 0))), (q41, .inl (cI, 4, .inl (fun _ => 0))), (q42, .inl (cI, 4, .inl (fun _ => 0))), (q43, .inl (cI, 4, .inl (fun _ => 0))), (q44, .inr (0, [.ref q45, .ref q46, .ref q47, .int 0, .int 0])), (q45, .inl (cI, 24, .inl (fun _ => 0))), (q46, .inl (cI, 24, .inl (fun _ => 0))), (q47, .inl (cI, 24, .inl (fun _ => 0))), (q48, .inr (1, [.ref q49, .int 0])), (q49, .inl (cI, 16, .inl (fun _ => 0))), (q50, .inr (4, [.int 0, .int 0, .int 0])), (q51, .inr (3, [.ref q52, .int 0, .int 0])), (q52, .inl (cI, 15, .inl (fun _ => 0))), (q53, .inl (cI, 4, .inl (fun _ => 0)))]) hP hD [0] [] rfl rfl (by decide) (by decide) hk1 hFc hP1 hD1
  have hK1 := (va_K.moved hvm.symm hK1).sub (tys' := [(cR4, .array .int), (cC27, .object RX2)]) [1, 2] rfl
  have hK := hK.app hK1
  have hK : va_K D vwCl [(cI, .int), (cR4, .array .int), (cC27, .object RX2)] s := hK
  generalize H1 = H at hP hS ⊢
  have hP : va_P D vwCl [(q1, .inr (7, [.ref q2, .ref q8, .ref q10, .ref q18, .ref q26, .ref q44, .ref q48, .ref q50, .ref q51, .ref q53, .int 0, .int 0])), (q2, .inr (6, [.ref q3, .ref q6, .ref q7])), (q3, .inl (cR4, 8, .inr (.inr (.inr (.inr (fun i => if i < 8 then some (rr5 i) else none)))))), (rr5 0, .inl (cI, 40, .inl (fun _ => 0))), (rr5 1, .inl (cI, 40, .inl (fun _ => 0))), (rr5 2, .inl (cI, 40, .inl (fun _ => 0))), (rr5 3, .inl (cI, 40, .inl (fun _ => 0))), (rr5 4, .inl (cI, 40, .inl (fun _ => 0))), (rr5 5, .inl (cI, 40, .inl (fun _ => 0))), (rr5 6, .inl (cI, 40, .inl (fun _ => 0))), (rr5 7, .inl (cI, 40, .inl (fun _ => 0))), (q6, .inl (cI, 8, .inl (fun _ => 0))), (q7, .inl (cI, 8, .inl (upd (upd (upd (upd (upd (upd (upd (upd (fun _ => 0) 0 (-1)) 1 (-1)) 2 (-1)) 3 (-1)) 4 (-1)) 5 (-1)) 6 (-1)) 7 (-1)))), (q8, .inr (5, [.ref q9, .int 0, .int 0, .int 0])), (q9, .inl (cI, 120, .inl (fun _ => 0))), (q10, .inr (2, [.int 0, .int 0, .int 0, .int 0, .int 0, .int 0, .int 0, .int 0, .int 0, .ref q11, .ref q12, .ref q13, .ref q14, .ref q15, .ref q16, .ref q17])), (q11, .inl (cI, 3, .inl (fun _ => 0))), (q12, .inl (cI, 4, .inl (fun _ => 0))), (q13, .inl (cI, 4, .inl (fun _ => 0))), (q14, .inl (cI, 4, .inl (fun _ => 0))), (q15, .inl (cI, 4, .inl (fun _ => 0))), (q16, .inl (cI, 4, .inl (fun _ => 0))), (q17, .inl (cI, 4, .inl (fun _ => 0))), (q18, .inr (2, [.int 0, .int 0, .int 0, .int 0, .int 0, .int 0, .int 0, .int 0, .int 0, .ref q19, .ref q20, .ref q21, .ref q22, .ref q23, .ref q24, .ref q25])), (q19, .inl (cI, 3, .inl (fun _ => 0))), (q20, .inl (cI, 4, .inl (fun _ => 0))), (q21, .inl (cI, 4, .inl (fun _ => 0))), (q22, .inl (cI, 4, .inl (fun _ => 0))), (q23, .inl (cI, 4, .inl (fun _ => 0))), (q24, .inl (cI, 4, .inl (fun _ => 0))), (q25, .inl (cI, 4, .inl (fun _ => 0))), (q26, .inl (cC27, 2, .inr (.inr (.inr (.inr (va_up (va_up (fun _ => none) 0 (some q28)) 1 (some q36))))))), (q28, .inr (2, [.int 0, .int 0, .int 0, .int 0, .int 0, .int 0, .int 0, .int 0, .int 0, .ref q29, .ref q30, .ref q31, .ref q32, .ref q33, .ref q34, .ref q35])), (q29, .inl (cI, 3, .inl (fun _ => 0))), (q30, .inl (cI, 4, .inl (fun _ => 0))), (q31, .inl (cI, 4, .inl (fun _ => 0))), (q32, .inl (cI, 4, .inl (fun _ => 0))), (q33, .inl (cI, 4, .inl (fun _ => 0))), (q34, .inl (cI, 4, .inl (fun _ => 0))), (q35, .inl (cI, 4, .inl (fun _ => 0))), (q36, .inr (2, [.int 0, .int 0, .int 0, .int 0, .int 0, .int 0, .int 0, .int 0, .int 0, .ref q37, .ref q38, .ref q39, .ref q40, .ref q41, .ref q42, .ref q43])), (q37, .inl (cI, 3, .inl (fun _ => 0))), (q38, .inl (cI, 4, .inl (fun _ => 0))), (q39, .inl (cI, 4, .inl (fun _ => 0))), (q40, .inl (cI, 4, .inl (fun _ => 0))), (q41, .inl (cI, 4, .inl (fun _ => 0))), (q42, .inl (cI, 4, .inl (fun _ => 0))), (q43, .inl (cI, 4, .inl (fun _ => 0))), (q44, .inr (0, [.ref q45, .ref q46, .ref q47, .int 0, .int 0])), (q45, .inl (cI, 24, .inl (fun _ => 0))), (q46, .inl (cI, 24, .inl (fun _ => 0))), (q47, .inl (cI, 24, .inl (fun _ => 0))), (q48, .inr (1, [.ref q49, .int 0])), (q49, .inl (cI, 16, .inl (fun _ => 0))), (q50, .inr (4, [.int 0, .int 0, .int 0])), (q51, .inr (3, [.ref q52, .int 0, .int 0])), (q52, .inl (cI, 15, .inl (fun _ => 0))), (q53, .inl (cI, 4, .inl (fun _ => 0)))] H := hP
  have hD : va_D A [(q1, .inr (7, [.ref q2, .ref q8, .ref q10, .ref q18, .ref q26, .ref q44, .ref q48, .ref q50, .ref q51, .ref q53, .int 0, .int 0])), (q2, .inr (6, [.ref q3, .ref q6, .ref q7])), (q3, .inl (cR4, 8, .inr (.inr (.inr (.inr (fun i => if i < 8 then some (rr5 i) else none)))))), (rr5 0, .inl (cI, 40, .inl (fun _ => 0))), (rr5 1, .inl (cI, 40, .inl (fun _ => 0))), (rr5 2, .inl (cI, 40, .inl (fun _ => 0))), (rr5 3, .inl (cI, 40, .inl (fun _ => 0))), (rr5 4, .inl (cI, 40, .inl (fun _ => 0))), (rr5 5, .inl (cI, 40, .inl (fun _ => 0))), (rr5 6, .inl (cI, 40, .inl (fun _ => 0))), (rr5 7, .inl (cI, 40, .inl (fun _ => 0))), (q6, .inl (cI, 8, .inl (fun _ => 0))), (q7, .inl (cI, 8, .inl (upd (upd (upd (upd (upd (upd (upd (upd (fun _ => 0) 0 (-1)) 1 (-1)) 2 (-1)) 3 (-1)) 4 (-1)) 5 (-1)) 6 (-1)) 7 (-1)))), (q8, .inr (5, [.ref q9, .int 0, .int 0, .int 0])), (q9, .inl (cI, 120, .inl (fun _ => 0))), (q10, .inr (2, [.int 0, .int 0, .int 0, .int 0, .int 0, .int 0, .int 0, .int 0, .int 0, .ref q11, .ref q12, .ref q13, .ref q14, .ref q15, .ref q16, .ref q17])), (q11, .inl (cI, 3, .inl (fun _ => 0))), (q12, .inl (cI, 4, .inl (fun _ => 0))), (q13, .inl (cI, 4, .inl (fun _ => 0))), (q14, .inl (cI, 4, .inl (fun _ => 0))), (q15, .inl (cI, 4, .inl (fun _ => 0))), (q16, .inl (cI, 4, .inl (fun _ => 0))), (q17, .inl (cI, 4, .inl (fun _ => 0))), (q18, .inr (2, [.int 0, .int 0, .int 0, .int 0, .int 0, .int 0, .int 0, .int 0, .int 0, .ref q19, .ref q20, .ref q21, .ref q22, .ref q23, .ref q24, .ref q25])), (q19, .inl (cI, 3, .inl (fun _ => 0))), (q20, .inl (cI, 4, .inl (fun _ => 0))), (q21, .inl (cI, 4, .inl (fun _ => 0))), (q22, .inl (cI, 4, .inl (fun _ => 0))), (q23, .inl (cI, 4, .inl (fun _ => 0))), (q24, .inl (cI, 4, .inl (fun _ => 0))), (q25, .inl (cI, 4, .inl (fun _ => 0))), (q26, .inl (cC27, 2, .inr (.inr (.inr (.inr (va_up (va_up (fun _ => none) 0 (some q28)) 1 (some q36))))))), (q28, .inr (2, [.int 0, .int 0, .int 0, .int 0, .int 0, .int 0, .int 0, .int 0, .int 0, .ref q29, .ref q30, .ref q31, .ref q32, .ref q33, .ref q34, .ref q35])), (q29, .inl (cI, 3, .inl (fun _ => 0))), (q30, .inl (cI, 4, .inl (fun _ => 0))), (q31, .inl (cI, 4, .inl (fun _ => 0))), (q32, .inl (cI, 4, .inl (fun _ => 0))), (q33, .inl (cI, 4, .inl (fun _ => 0))), (q34, .inl (cI, 4, .inl (fun _ => 0))), (q35, .inl (cI, 4, .inl (fun _ => 0))), (q36, .inr (2, [.int 0, .int 0, .int 0, .int 0, .int 0, .int 0, .int 0, .int 0, .int 0, .ref q37, .ref q38, .ref q39, .ref q40, .ref q41, .ref q42, .ref q43])), (q37, .inl (cI, 3, .inl (fun _ => 0))), (q38, .inl (cI, 4, .inl (fun _ => 0))), (q39, .inl (cI, 4, .inl (fun _ => 0))), (q40, .inl (cI, 4, .inl (fun _ => 0))), (q41, .inl (cI, 4, .inl (fun _ => 0))), (q42, .inl (cI, 4, .inl (fun _ => 0))), (q43, .inl (cI, 4, .inl (fun _ => 0))), (q44, .inr (0, [.ref q45, .ref q46, .ref q47, .int 0, .int 0])), (q45, .inl (cI, 24, .inl (fun _ => 0))), (q46, .inl (cI, 24, .inl (fun _ => 0))), (q47, .inl (cI, 24, .inl (fun _ => 0))), (q48, .inr (1, [.ref q49, .int 0])), (q49, .inl (cI, 16, .inl (fun _ => 0))), (q50, .inr (4, [.int 0, .int 0, .int 0])), (q51, .inr (3, [.ref q52, .int 0, .int 0])), (q52, .inl (cI, 15, .inl (fun _ => 0))), (q53, .inl (cI, 4, .inl (fun _ => 0)))] := hD
  refine W.widen (k := 58) (n := 777) (Nat.le_of_ble_eq_true rfl) (Nat.le_of_ble_eq_true rfl) ?_
  refine lv_astore_n (lv' := [(1, .ref q1), (0, .ref b)]) hx hb kd_law_7 rfl hl (by decide) rfl (fun ls hl => ?_)
  refine va_new (ci := 8) (fs := [.null, .null, .null, .int 0, .null, .int 0, .int 0, .int 0, .int 0, .null, .null, .null, .int 0, .int 0, .null, .null, .null, .null, .int 0, .int 0, .int 0, .null, .null, .null, .null, .int 0]) (C := RX10) (T := TX10) (N := 26) hx hb hts (fun w h => (zCls 8 _ rfl).1 w h) tyX10 tyX10_ok hown (hts (.classLink R_law 10 RX10) (zTb_at (i := 850) (by decide +kernel) (by decide +kernel))) (hts (.instantiable RX10 26) (zTb_at (i := 851) (by decide +kernel) (by decide +kernel))) (hts (.initialized RX10) (zTb_at (i := 66) (by decide +kernel) (by decide +kernel))) hK hP hD hS hA rfl (by decide +kernel) (Nat.le_of_ble_eq_true rfl) (Nat.le_of_ble_eq_true rfl) kd_law_8 (fun q54 H hP hD hS => ?_)
  have hP : va_P D vwCl [(q1, .inr (7, [.ref q2, .ref q8, .ref q10, .ref q18, .ref q26, .ref q44, .ref q48, .ref q50, .ref q51, .ref q53, .int 0, .int 0])), (q2, .inr (6, [.ref q3, .ref q6, .ref q7])), (q3, .inl (cR4, 8, .inr (.inr (.inr (.inr (fun i => if i < 8 then some (rr5 i) else none)))))), (rr5 0, .inl (cI, 40, .inl (fun _ => 0))), (rr5 1, .inl (cI, 40, .inl (fun _ => 0))), (rr5 2, .inl (cI, 40, .inl (fun _ => 0))), (rr5 3, .inl (cI, 40, .inl (fun _ => 0))), (rr5 4, .inl (cI, 40, .inl (fun _ => 0))), (rr5 5, .inl (cI, 40, .inl (fun _ => 0))), (rr5 6, .inl (cI, 40, .inl (fun _ => 0))), (rr5 7, .inl (cI, 40, .inl (fun _ => 0))), (q6, .inl (cI, 8, .inl (fun _ => 0))), (q7, .inl (cI, 8, .inl (upd (upd (upd (upd (upd (upd (upd (upd (fun _ => 0) 0 (-1)) 1 (-1)) 2 (-1)) 3 (-1)) 4 (-1)) 5 (-1)) 6 (-1)) 7 (-1)))), (q8, .inr (5, [.ref q9, .int 0, .int 0, .int 0])), (q9, .inl (cI, 120, .inl (fun _ => 0))), (q10, .inr (2, [.int 0, .int 0, .int 0, .int 0, .int 0, .int 0, .int 0, .int 0, .int 0, .ref q11, .ref q12, .ref q13, .ref q14, .ref q15, .ref q16, .ref q17])), (q11, .inl (cI, 3, .inl (fun _ => 0))), (q12, .inl (cI, 4, .inl (fun _ => 0))), (q13, .inl (cI, 4, .inl (fun _ => 0))), (q14, .inl (cI, 4, .inl (fun _ => 0))), (q15, .inl (cI, 4, .inl (fun _ => 0))), (q16, .inl (cI, 4, .inl (fun _ => 0))), (q17, .inl (cI, 4, .inl (fun _ => 0))), (q18, .inr (2, [.int 0, .int 0, .int 0, .int 0, .int 0, .int 0, .int 0, .int 0, .int 0, .ref q19, .ref q20, .ref q21, .ref q22, .ref q23, .ref q24, .ref q25])), (q19, .inl (cI, 3, .inl (fun _ => 0))), (q20, .inl (cI, 4, .inl (fun _ => 0))), (q21, .inl (cI, 4, .inl (fun _ => 0))), (q22, .inl (cI, 4, .inl (fun _ => 0))), (q23, .inl (cI, 4, .inl (fun _ => 0))), (q24, .inl (cI, 4, .inl (fun _ => 0))), (q25, .inl (cI, 4, .inl (fun _ => 0))), (q26, .inl (cC27, 2, .inr (.inr (.inr (.inr (va_up (va_up (fun _ => none) 0 (some q28)) 1 (some q36))))))), (q28, .inr (2, [.int 0, .int 0, .int 0, .int 0, .int 0, .int 0, .int 0, .int 0, .int 0, .ref q29, .ref q30, .ref q31, .ref q32, .ref q33, .ref q34, .ref q35])), (q29, .inl (cI, 3, .inl (fun _ => 0))), (q30, .inl (cI, 4, .inl (fun _ => 0))), (q31, .inl (cI, 4, .inl (fun _ => 0))), (q32, .inl (cI, 4, .inl (fun _ => 0))), (q33, .inl (cI, 4, .inl (fun _ => 0))), (q34, .inl (cI, 4, .inl (fun _ => 0))), (q35, .inl (cI, 4, .inl (fun _ => 0))), (q36, .inr (2, [.int 0, .int 0, .int 0, .int 0, .int 0, .int 0, .int 0, .int 0, .int 0, .ref q37, .ref q38, .ref q39, .ref q40, .ref q41, .ref q42, .ref q43])), (q37, .inl (cI, 3, .inl (fun _ => 0))), (q38, .inl (cI, 4, .inl (fun _ => 0))), (q39, .inl (cI, 4, .inl (fun _ => 0))), (q40, .inl (cI, 4, .inl (fun _ => 0))), (q41, .inl (cI, 4, .inl (fun _ => 0))), (q42, .inl (cI, 4, .inl (fun _ => 0))), (q43, .inl (cI, 4, .inl (fun _ => 0))), (q44, .inr (0, [.ref q45, .ref q46, .ref q47, .int 0, .int 0])), (q45, .inl (cI, 24, .inl (fun _ => 0))), (q46, .inl (cI, 24, .inl (fun _ => 0))), (q47, .inl (cI, 24, .inl (fun _ => 0))), (q48, .inr (1, [.ref q49, .int 0])), (q49, .inl (cI, 16, .inl (fun _ => 0))), (q50, .inr (4, [.int 0, .int 0, .int 0])), (q51, .inr (3, [.ref q52, .int 0, .int 0])), (q52, .inl (cI, 15, .inl (fun _ => 0))), (q53, .inl (cI, 4, .inl (fun _ => 0))), (q54, .inr (8, [.null, .null, .null, .int 0, .null, .int 0, .int 0, .int 0, .int 0, .null, .null, .null, .int 0, .int 0, .null, .null, .null, .null, .int 0, .int 0, .int 0, .null, .null, .null, .null, .int 0]))] H := hP
  have hD : va_D A [(q1, .inr (7, [.ref q2, .ref q8, .ref q10, .ref q18, .ref q26, .ref q44, .ref q48, .ref q50, .ref q51, .ref q53, .int 0, .int 0])), (q2, .inr (6, [.ref q3, .ref q6, .ref q7])), (q3, .inl (cR4, 8, .inr (.inr (.inr (.inr (fun i => if i < 8 then some (rr5 i) else none)))))), (rr5 0, .inl (cI, 40, .inl (fun _ => 0))), (rr5 1, .inl (cI, 40, .inl (fun _ => 0))), (rr5 2, .inl (cI, 40, .inl (fun _ => 0))), (rr5 3, .inl (cI, 40, .inl (fun _ => 0))), (rr5 4, .inl (cI, 40, .inl (fun _ => 0))), (rr5 5, .inl (cI, 40, .inl (fun _ => 0))), (rr5 6, .inl (cI, 40, .inl (fun _ => 0))), (rr5 7, .inl (cI, 40, .inl (fun _ => 0))), (q6, .inl (cI, 8, .inl (fun _ => 0))), (q7, .inl (cI, 8, .inl (upd (upd (upd (upd (upd (upd (upd (upd (fun _ => 0) 0 (-1)) 1 (-1)) 2 (-1)) 3 (-1)) 4 (-1)) 5 (-1)) 6 (-1)) 7 (-1)))), (q8, .inr (5, [.ref q9, .int 0, .int 0, .int 0])), (q9, .inl (cI, 120, .inl (fun _ => 0))), (q10, .inr (2, [.int 0, .int 0, .int 0, .int 0, .int 0, .int 0, .int 0, .int 0, .int 0, .ref q11, .ref q12, .ref q13, .ref q14, .ref q15, .ref q16, .ref q17])), (q11, .inl (cI, 3, .inl (fun _ => 0))), (q12, .inl (cI, 4, .inl (fun _ => 0))), (q13, .inl (cI, 4, .inl (fun _ => 0))), (q14, .inl (cI, 4, .inl (fun _ => 0))), (q15, .inl (cI, 4, .inl (fun _ => 0))), (q16, .inl (cI, 4, .inl (fun _ => 0))), (q17, .inl (cI, 4, .inl (fun _ => 0))), (q18, .inr (2, [.int 0, .int 0, .int 0, .int 0, .int 0, .int 0, .int 0, .int 0, .int 0, .ref q19, .ref q20, .ref q21, .ref q22, .ref q23, .ref q24, .ref q25])), (q19, .inl (cI, 3, .inl (fun _ => 0))), (q20, .inl (cI, 4, .inl (fun _ => 0))), (q21, .inl (cI, 4, .inl (fun _ => 0))), (q22, .inl (cI, 4, .inl (fun _ => 0))), (q23, .inl (cI, 4, .inl (fun _ => 0))), (q24, .inl (cI, 4, .inl (fun _ => 0))), (q25, .inl (cI, 4, .inl (fun _ => 0))), (q26, .inl (cC27, 2, .inr (.inr (.inr (.inr (va_up (va_up (fun _ => none) 0 (some q28)) 1 (some q36))))))), (q28, .inr (2, [.int 0, .int 0, .int 0, .int 0, .int 0, .int 0, .int 0, .int 0, .int 0, .ref q29, .ref q30, .ref q31, .ref q32, .ref q33, .ref q34, .ref q35])), (q29, .inl (cI, 3, .inl (fun _ => 0))), (q30, .inl (cI, 4, .inl (fun _ => 0))), (q31, .inl (cI, 4, .inl (fun _ => 0))), (q32, .inl (cI, 4, .inl (fun _ => 0))), (q33, .inl (cI, 4, .inl (fun _ => 0))), (q34, .inl (cI, 4, .inl (fun _ => 0))), (q35, .inl (cI, 4, .inl (fun _ => 0))), (q36, .inr (2, [.int 0, .int 0, .int 0, .int 0, .int 0, .int 0, .int 0, .int 0, .int 0, .ref q37, .ref q38, .ref q39, .ref q40, .ref q41, .ref q42, .ref q43])), (q37, .inl (cI, 3, .inl (fun _ => 0))), (q38, .inl (cI, 4, .inl (fun _ => 0))), (q39, .inl (cI, 4, .inl (fun _ => 0))), (q40, .inl (cI, 4, .inl (fun _ => 0))), (q41, .inl (cI, 4, .inl (fun _ => 0))), (q42, .inl (cI, 4, .inl (fun _ => 0))), (q43, .inl (cI, 4, .inl (fun _ => 0))), (q44, .inr (0, [.ref q45, .ref q46, .ref q47, .int 0, .int 0])), (q45, .inl (cI, 24, .inl (fun _ => 0))), (q46, .inl (cI, 24, .inl (fun _ => 0))), (q47, .inl (cI, 24, .inl (fun _ => 0))), (q48, .inr (1, [.ref q49, .int 0])), (q49, .inl (cI, 16, .inl (fun _ => 0))), (q50, .inr (4, [.int 0, .int 0, .int 0])), (q51, .inr (3, [.ref q52, .int 0, .int 0])), (q52, .inl (cI, 15, .inl (fun _ => 0))), (q53, .inl (cI, 4, .inl (fun _ => 0))), (q54, .inr (8, [.null, .null, .null, .int 0, .null, .int 0, .int 0, .int 0, .int 0, .null, .null, .null, .int 0, .int 0, .null, .null, .null, .null, .int 0, .int 0, .int 0, .null, .null, .null, .null, .int 0]))] := hD
  refine W.widen (k := 59) (n := 803) (Nat.le_of_ble_eq_true rfl) (Nat.le_of_ble_eq_true rfl) ?_
  refine lv_dup hx hb kd_law_11 rfl ?_
  have hPc := hP.sub (ws' := [(q54, .inr (8, [.null, .null, .null, .int 0, .null, .int 0, .int 0, .int 0, .int 0, .null, .null, .null, .int 0, .int 0, .null, .null, .null, .null, .int 0, .int 0, .int 0, .null, .null, .null, .null, .int 0]))]) [58] rfl
  have hDc := hD.sub (ws' := [(q54, .inr (8, [.null, .null, .null, .int 0, .null, .int 0, .int 0, .int 0, .int 0, .null, .null, .null, .int 0, .int 0, .null, .null, .null, .null, .int 0, .int 0, .int 0, .null, .null, .null, .null, .int 0]))]) [58] (by decide) rfl
  have hKc := hK.sub (tys' := [(cI, .int)]) [0] rfl
  have hFc := va_free (wc := [(q54, .inr (8, [.null, .null, .null, .int 0, .null, .int 0, .int 0, .int 0, .int 0, .null, .null, .null, .int 0, .int 0, .null, .null, .null, .null, .int 0, .int 0, .int 0, .null, .null, .null, .null, .int 0]))]) hD hS hA [58] rfl
  refine va_callv (va_runI (As := []) (rest := [.ref q54]) ⟨hx, hb, hml, hown, hts⟩ (k_X10 l D cI q54 H.size) (cwI 0 hts (kgoodL (zTb_at (i := 854) (by decide +kernel) (by decide +kernel))) rfl rfl rfl (hts (.initialized RX10) (zTb_at (i := 66) (by decide +kernel) (by decide +kernel))) (hts (.methodLink R_law 12 yX10_init) (zTb_at (i := 852) (by decide +kernel) (by decide +kernel))) (hts (.instanceMethod yX10_init) (zTb_at (i := 853) (by decide +kernel) (by decide +kernel))) rfl (by decide +kernel) ⟨Nat.le_of_ble_eq_true rfl, Nat.le_of_ble_eq_true rfl⟩) ⟨fun a U g mk q => by obtain ⟨q0, q1, qP, qK, qD, qE⟩ := q; exact ⟨q0, q1, qP, va_K.moved (u := U) (U := U.calling g mk a) (Vm.Alike.refl U.vm) qK, qD, trivial⟩, fun U hU hW => ⟨rfl, by rw [hU], by rw [hU]; exact hPc, va_K.moved hW.alike hKc, hDc.weaken (fun _ _ _ _ => trivial), trivial⟩⟩ rfl rfl hl.1 rfl (lv_room (Nat.le_of_ble_eq_true rfl)) kd_law_12 ⟨Nat.le_of_ble_eq_true rfl, Nat.le_of_ble_eq_true rfl⟩) hS (fun q _ h => hFc q h) hFc (fun u t H1 locs ht hvm hw hB hz1 hk1 hS => ?_)
  obtain ⟨q55, q56, q57, q58, q59, q60, q61, q62, q63, q64, q65, q66, q67, cL68, q69, q70, hP1, hK1, hD1⟩ := hB
  rw [ht] at hP1
  obtain ⟨hP, hD⟩ := va_join (wr := [(q1, .inr (7, [.ref q2, .ref q8, .ref q10, .ref q18, .ref q26, .ref q44, .ref q48, .ref q50, .ref q51, .ref q53, .int 0, .int 0])), (q2, .inr (6, [.ref q3, .ref q6, .ref q7])), (q3, .inl (cR4, 8, .inr (.inr (.inr (.inr (fun i => if i < 8 then some (rr5 i) else none)))))), (rr5 0, .inl (cI, 40, .inl (fun _ => 0))), (rr5 1, .inl (cI, 40, .inl (fun _ => 0))), (rr5 2, .inl (cI, 40, .inl (fun _ => 0))), (rr5 3, .inl (cI, 40, .inl (fun _ => 0))), (rr5 4, .inl (cI, 40, .inl (fun _ => 0))), (rr5 5, .inl (cI, 40, .inl (fun _ => 0))), (rr5 6, .inl (cI, 40, .inl (fun _ => 0))), (rr5 7, .inl (cI, 40, .inl (fun _ => 0))), (q6, .inl (cI, 8, .inl (fun _ => 0))), (q7, .inl (cI, 8, .inl (upd (upd (upd (upd (upd (upd (upd (upd (fun _ => 0) 0 (-1)) 1 (-1)) 2 (-1)) 3 (-1)) 4 (-1)) 5 (-1)) 6 (-1)) 7 (-1)))), (q8, .inr (5, [.ref q9, .int 0, .int 0, .int 0])), (q9, .inl (cI, 120, .inl (fun _ => 0))), (q10, .inr (2, [.int 0, .int 0, .int 0, .int 0, .int 0, .int 0, .int 0, .int 0, .int 0, .ref q11, .ref q12, .ref q13, .ref q14, .ref q15, .ref q16, .ref q17])), (q11, .inl (cI, 3, .inl (fun _ => 0))), (q12, .inl (cI, 4, .inl (fun _ => 0))), (q13, .inl (cI, 4, .inl (fun _ => 0))), (q14, .inl (cI, 4, .inl (fun _ => 0))), (q15, .inl (cI, 4, .inl (fun _ => 0))), (q16, .inl (cI, 4, .inl (fun _ => 0))), (q17, .inl (cI, 4, .inl (fun _ => 0))), (q18, .inr (2, [.int 0, .int 0, .int 0, .int 0, .int 0, .int 0, .int 0, .int 0, .int 0, .ref q19, .ref q20, .ref q21, .ref q22, .ref q23, .ref q24, .ref q25])), (q19, .inl (cI, 3, .inl (fun _ => 0))), (q20, .inl (cI, 4, .inl (fun _ => 0))), (q21, .inl (cI, 4, .inl (fun _ => 0))), (q22, .inl (cI, 4, .inl (fun _ => 0))), (q23, .inl (cI, 4, .inl (fun _ => 0))), (q24, .inl (cI, 4, .inl (fun _ => 0))), (q25, .inl (cI, 4, .inl (fun _ => 0))), (q26, .inl (cC27, 2, .inr (.inr (.inr (.inr (va_up (va_up (fun _ => none) 0 (some q28)) 1 (some q36))))))), (q28, .inr (2, [.int 0, .int 0, .int 0, .int 0, .int 0, .int 0, .int 0, .int 0, .int 0, .ref q29, .ref q30, .ref q31, .ref q32, .ref q33, .ref q34, .ref q35])), (q29, .inl (cI, 3, .inl (fun _ => 0))), (q30, .inl (cI, 4, .inl (fun _ => 0))), (q31, .inl (cI, 4, .inl (fun _ => 0))), (q32, .inl (cI, 4, .inl (fun _ => 0))), (q33, .inl (cI, 4, .inl (fun _ => 0))), (q34, .inl (cI, 4, .inl (fun _ => 0))), (q35, .inl (cI, 4, .inl (fun _ => 0))), (q36, .inr (2, [.int 0, .int 0, .int 0, .int 0, .int 0, .int 0, .int 0, .int 0, .int 0, .ref q37, .ref q38, .ref q39, .ref q40, .ref q41, .ref q42, .ref q43])), (q37, .inl (cI, 3, .inl (fun _ => 0))), (q38, .inl (cI, 4, .inl (fun _ => 0))), (q39, .inl (cI, 4, .inl (fun _ => 0))), (q40, .inl (cI, 4, .inl (fun _ => 0))), (q41, .inl (cI, 4, .inl (fun _ => 0))), (q42, .inl (cI, 4, .inl (fun _ => 0))), (q43, .inl (cI, 4, .inl (fun _ => 0))), (q44, .inr (0, [.ref q45, .ref q46, .ref q47, .int 0, .int 0])), (q45, .inl (cI, 24, .inl (fun _ => 0))), (q46, .inl (cI, 24, .inl (fun _ => 0))), (q47, .inl (cI, 24, .inl (fun _ => 0))), (q48, .inr (1, [.ref q49, .int 0])), (q49, .inl (cI, 16, .inl (fun _ => 0))), (q50, .inr (4, [.int 0, .int 0, .int 0])), (q51, .inr (3, [.ref q52, .int 0, .int 0])), (q52, .inl (cI, 15, .inl (fun _ => 0))), (q53, .inl (cI, 4, .inl (fun _ => 0)))]) (w1 := [(q54, .inr (8, [.ref q55, .ref q56, .ref q57, .int 0, .ref q58, .int 0, .int 0, .int 0, .int 0, .ref q59, .ref q60, .ref q61, .int 0, .int 0, .ref q62, .ref q63, .ref q64, .ref q65, .int 0, .int 0, .int 0, .ref q66, .ref q67, .ref q69, .ref q70, .int 0])), (q55, .inl (cI, 8, .inl (upd (upd (upd (upd (upd (upd (upd (upd (fun _ => 0) 0 (-1)) 1 (-1)) 2 (-1)) 3 (-1)) 4 (-1)) 5 (-1)) 6 (-1)) 7 (-1)))), (q56, .inl (cI, 8, .inl (fun _ => 0))), (q57, .inl (cI, 320, .inl (fun _ => 0))), (q58, .inl (cI, 120, .inl (fun _ => 0))), (q59, .inl (cI, 62, .inl (fun _ => 0))), (q60, .inl (cI, 62, .inl (fun _ => 0))), (q61, .inl (cI, 1488, .inl (fun _ => 0))), (q62, .inl (cI, 4, .inl (fun _ => 0))), (q63, .inl (cI, 62, .inl (fun _ => 0))), (q64, .inl (cI, 62, .inl (fun _ => 0))), (q65, .inl (cI, 2, .inl (fun _ => 0))), (q66, .inl (cI, 15, .inl (fun _ => 0))), (q67, .inl (cL68, 4, .inr (.inl (fun _ => 0)))), (q69, .inl (cI, 124, .inl (fun _ => 0))), (q70, .inl (cI, 16, .inl (fun _ => 0)))]) hP hD [58] [0, 1, 2, 3, 4, 5, 6, 7, 8, 9, 10, 11, 12, 13, 14, 15, 16, 17, 18, 19, 20, 21, 22, 23, 24, 25, 26, 27, 28, 29, 30, 31, 32, 33, 34, 35, 36, 37, 38, 39, 40, 41, 42, 43, 44, 45, 46, 47, 48, 49, 50, 51, 52, 53, 54, 55, 56, 57] rfl rfl (by decide) (by decide) hk1 hFc hP1 hD1
  have hK1 := (va_K.moved hvm.symm hK1).sub (tys' := [(cL68, .long)]) [1] rfl
  have hK := hK.app hK1
  have hK : va_K D vwCl [(cI, .int), (cR4, .array .int), (cC27, .object RX2), (cL68, .long)] s := hK
  generalize H1 = H at hP hS ⊢
  have hP : va_P D vwCl [(q1, .inr (7, [.ref q2, .ref q8, .ref q10, .ref q18, .ref q26, .ref q44, .ref q48, .ref q50, .ref q51, .ref q53, .int 0, .int 0])), (q2, .inr (6, [.ref q3, .ref q6, .ref q7])), (q3, .inl (cR4, 8, .inr (.inr (.inr (.inr (fun i => if i < 8 then some (rr5 i) else none)))))), (rr5 0, .inl (cI, 40, .inl (fun _ => 0))), (rr5 1, .inl (cI, 40, .inl (fun _ => 0))), (rr5 2, .inl (cI, 40, .inl (fun _ => 0))), (rr5 3, .inl (cI, 40, .inl (fun _ => 0))), (rr5 4, .inl (cI, 40, .inl (fun _ => 0))), (rr5 5, .inl (cI, 40, .inl (fun _ => 0))), (rr5 6, .inl (cI, 40, .inl (fun _ => 0))), (rr5 7, .inl (cI, 40, .inl (fun _ => 0))), (q6, .inl (cI, 8, .inl (fun _ => 0))), (q7, .inl (cI, 8, .inl (upd (upd (upd (upd (upd (upd (upd (upd (fun _ => 0) 0 (-1)) 1 (-1)) 2 (-1)) 3 (-1)) 4 (-1)) 5 (-1)) 6 (-1)) 7 (-1)))), (q8, .inr (5, [.ref q9, .int 0, .int 0, .int 0])), (q9, .inl (cI, 120, .inl (fun _ => 0))), (q10, .inr (2, [.int 0, .int 0, .int 0, .int 0, .int 0, .int 0, .int 0, .int 0, .int 0, .ref q11, .ref q12, .ref q13, .ref q14, .ref q15, .ref q16, .ref q17])), (q11, .inl (cI, 3, .inl (fun _ => 0))), (q12, .inl (cI, 4, .inl (fun _ => 0))), (q13, .inl (cI, 4, .inl (fun _ => 0))), (q14, .inl (cI, 4, .inl (fun _ => 0))), (q15, .inl (cI, 4, .inl (fun _ => 0))), (q16, .inl (cI, 4, .inl (fun _ => 0))), (q17, .inl (cI, 4, .inl (fun _ => 0))), (q18, .inr (2, [.int 0, .int 0, .int 0, .int 0, .int 0, .int 0, .int 0, .int 0, .int 0, .ref q19, .ref q20, .ref q21, .ref q22, .ref q23, .ref q24, .ref q25])), (q19, .inl (cI, 3, .inl (fun _ => 0))), (q20, .inl (cI, 4, .inl (fun _ => 0))), (q21, .inl (cI, 4, .inl (fun _ => 0))), (q22, .inl (cI, 4, .inl (fun _ => 0))), (q23, .inl (cI, 4, .inl (fun _ => 0))), (q24, .inl (cI, 4, .inl (fun _ => 0))), (q25, .inl (cI, 4, .inl (fun _ => 0))), (q26, .inl (cC27, 2, .inr (.inr (.inr (.inr (va_up (va_up (fun _ => none) 0 (some q28)) 1 (some q36))))))), (q28, .inr (2, [.int 0, .int 0, .int 0, .int 0, .int 0, .int 0, .int 0, .int 0, .int 0, .ref q29, .ref q30, .ref q31, .ref q32, .ref q33, .ref q34, .ref q35])), (q29, .inl (cI, 3, .inl (fun _ => 0))), (q30, .inl (cI, 4, .inl (fun _ => 0))), (q31, .inl (cI, 4, .inl (fun _ => 0))), (q32, .inl (cI, 4, .inl (fun _ => 0))), (q33, .inl (cI, 4, .inl (fun _ => 0))), (q34, .inl (cI, 4, .inl (fun _ => 0))), (q35, .inl (cI, 4, .inl (fun _ => 0))), (q36, .inr (2, [.int 0, .int 0, .int 0, .int 0, .int 0, .int 0, .int 0, .int 0, .int 0, .ref q37, .ref q38, .ref q39, .ref q40, .ref q41, .ref q42, .ref q43])), (q37, .inl (cI, 3, .inl (fun _ => 0))), (q38, .inl (cI, 4, .inl (fun _ => 0))), (q39, .inl (cI, 4, .inl (fun _ => 0))), (q40, .inl (cI, 4, .inl (fun _ => 0))), (q41, .inl (cI, 4, .inl (fun _ => 0))), (q42, .inl (cI, 4, .inl (fun _ => 0))), (q43, .inl (cI, 4, .inl (fun _ => 0))), (q44, .inr (0, [.ref q45, .ref q46, .ref q47, .int 0, .int 0])), (q45, .inl (cI, 24, .inl (fun _ => 0))), (q46, .inl (cI, 24, .inl (fun _ => 0))), (q47, .inl (cI, 24, .inl (fun _ => 0))), (q48, .inr (1, [.ref q49, .int 0])), (q49, .inl (cI, 16, .inl (fun _ => 0))), (q50, .inr (4, [.int 0, .int 0, .int 0])), (q51, .inr (3, [.ref q52, .int 0, .int 0])), (q52, .inl (cI, 15, .inl (fun _ => 0))), (q53, .inl (cI, 4, .inl (fun _ => 0))), (q54, .inr (8, [.ref q55, .ref q56, .ref q57, .int 0, .ref q58, .int 0, .int 0, .int 0, .int 0, .ref q59, .ref q60, .ref q61, .int 0, .int 0, .ref q62, .ref q63, .ref q64, .ref q65, .int 0, .int 0, .int 0, .ref q66, .ref q67, .ref q69, .ref q70, .int 0])), (q55, .inl (cI, 8, .inl (upd (upd (upd (upd (upd (upd (upd (upd (fun _ => 0) 0 (-1)) 1 (-1)) 2 (-1)) 3 (-1)) 4 (-1)) 5 (-1)) 6 (-1)) 7 (-1)))), (q56, .inl (cI, 8, .inl (fun _ => 0))), (q57, .inl (cI, 320, .inl (fun _ => 0))), (q58, .inl (cI, 120, .inl (fun _ => 0))), (q59, .inl (cI, 62, .inl (fun _ => 0))), (q60, .inl (cI, 62, .inl (fun _ => 0))), (q61, .inl (cI, 1488, .inl (fun _ => 0))), (q62, .inl (cI, 4, .inl (fun _ => 0))), (q63, .inl (cI, 62, .inl (fun _ => 0))), (q64, .inl (cI, 62, .inl (fun _ => 0))), (q65, .inl (cI, 2, .inl (fun _ => 0))), (q66, .inl (cI, 15, .inl (fun _ => 0))), (q67, .inl (cL68, 4, .inr (.inl (fun _ => 0)))), (q69, .inl (cI, 124, .inl (fun _ => 0))), (q70, .inl (cI, 16, .inl (fun _ => 0)))] H := hP
  have hD : va_D A [(q1, .inr (7, [.ref q2, .ref q8, .ref q10, .ref q18, .ref q26, .ref q44, .ref q48, .ref q50, .ref q51, .ref q53, .int 0, .int 0])), (q2, .inr (6, [.ref q3, .ref q6, .ref q7])), (q3, .inl (cR4, 8, .inr (.inr (.inr (.inr (fun i => if i < 8 then some (rr5 i) else none)))))), (rr5 0, .inl (cI, 40, .inl (fun _ => 0))), (rr5 1, .inl (cI, 40, .inl (fun _ => 0))), (rr5 2, .inl (cI, 40, .inl (fun _ => 0))), (rr5 3, .inl (cI, 40, .inl (fun _ => 0))), (rr5 4, .inl (cI, 40, .inl (fun _ => 0))), (rr5 5, .inl (cI, 40, .inl (fun _ => 0))), (rr5 6, .inl (cI, 40, .inl (fun _ => 0))), (rr5 7, .inl (cI, 40, .inl (fun _ => 0))), (q6, .inl (cI, 8, .inl (fun _ => 0))), (q7, .inl (cI, 8, .inl (upd (upd (upd (upd (upd (upd (upd (upd (fun _ => 0) 0 (-1)) 1 (-1)) 2 (-1)) 3 (-1)) 4 (-1)) 5 (-1)) 6 (-1)) 7 (-1)))), (q8, .inr (5, [.ref q9, .int 0, .int 0, .int 0])), (q9, .inl (cI, 120, .inl (fun _ => 0))), (q10, .inr (2, [.int 0, .int 0, .int 0, .int 0, .int 0, .int 0, .int 0, .int 0, .int 0, .ref q11, .ref q12, .ref q13, .ref q14, .ref q15, .ref q16, .ref q17])), (q11, .inl (cI, 3, .inl (fun _ => 0))), (q12, .inl (cI, 4, .inl (fun _ => 0))), (q13, .inl (cI, 4, .inl (fun _ => 0))), (q14, .inl (cI, 4, .inl (fun _ => 0))), (q15, .inl (cI, 4, .inl (fun _ => 0))), (q16, .inl (cI, 4, .inl (fun _ => 0))), (q17, .inl (cI, 4, .inl (fun _ => 0))), (q18, .inr (2, [.int 0, .int 0, .int 0, .int 0, .int 0, .int 0, .int 0, .int 0, .int 0, .ref q19, .ref q20, .ref q21, .ref q22, .ref q23, .ref q24, .ref q25])), (q19, .inl (cI, 3, .inl (fun _ => 0))), (q20, .inl (cI, 4, .inl (fun _ => 0))), (q21, .inl (cI, 4, .inl (fun _ => 0))), (q22, .inl (cI, 4, .inl (fun _ => 0))), (q23, .inl (cI, 4, .inl (fun _ => 0))), (q24, .inl (cI, 4, .inl (fun _ => 0))), (q25, .inl (cI, 4, .inl (fun _ => 0))), (q26, .inl (cC27, 2, .inr (.inr (.inr (.inr (va_up (va_up (fun _ => none) 0 (some q28)) 1 (some q36))))))), (q28, .inr (2, [.int 0, .int 0, .int 0, .int 0, .int 0, .int 0, .int 0, .int 0, .int 0, .ref q29, .ref q30, .ref q31, .ref q32, .ref q33, .ref q34, .ref q35])), (q29, .inl (cI, 3, .inl (fun _ => 0))), (q30, .inl (cI, 4, .inl (fun _ => 0))), (q31, .inl (cI, 4, .inl (fun _ => 0))), (q32, .inl (cI, 4, .inl (fun _ => 0))), (q33, .inl (cI, 4, .inl (fun _ => 0))), (q34, .inl (cI, 4, .inl (fun _ => 0))), (q35, .inl (cI, 4, .inl (fun _ => 0))), (q36, .inr (2, [.int 0, .int 0, .int 0, .int 0, .int 0, .int 0, .int 0, .int 0, .int 0, .ref q37, .ref q38, .ref q39, .ref q40, .ref q41, .ref q42, .ref q43])), (q37, .inl (cI, 3, .inl (fun _ => 0))), (q38, .inl (cI, 4, .inl (fun _ => 0))), (q39, .inl (cI, 4, .inl (fun _ => 0))), (q40, .inl (cI, 4, .inl (fun _ => 0))), (q41, .inl (cI, 4, .inl (fun _ => 0))), (q42, .inl (cI, 4, .inl (fun _ => 0))), (q43, .inl (cI, 4, .inl (fun _ => 0))), (q44, .inr (0, [.ref q45, .ref q46, .ref q47, .int 0, .int 0])), (q45, .inl (cI, 24, .inl (fun _ => 0))), (q46, .inl (cI, 24, .inl (fun _ => 0))), (q47, .inl (cI, 24, .inl (fun _ => 0))), (q48, .inr (1, [.ref q49, .int 0])), (q49, .inl (cI, 16, .inl (fun _ => 0))), (q50, .inr (4, [.int 0, .int 0, .int 0])), (q51, .inr (3, [.ref q52, .int 0, .int 0])), (q52, .inl (cI, 15, .inl (fun _ => 0))), (q53, .inl (cI, 4, .inl (fun _ => 0))), (q54, .inr (8, [.ref q55, .ref q56, .ref q57, .int 0, .ref q58, .int 0, .int 0, .int 0, .int 0, .ref q59, .ref q60, .ref q61, .int 0, .int 0, .ref q62, .ref q63, .ref q64, .ref q65, .int 0, .int 0, .int 0, .ref q66, .ref q67, .ref q69, .ref q70, .int 0])), (q55, .inl (cI, 8, .inl (upd (upd (upd (upd (upd (upd (upd (upd (fun _ => 0) 0 (-1)) 1 (-1)) 2 (-1)) 3 (-1)) 4 (-1)) 5 (-1)) 6 (-1)) 7 (-1)))), (q56, .inl (cI, 8, .inl (fun _ => 0))), (q57, .inl (cI, 320, .inl (fun _ => 0))), (q58, .inl (cI, 120, .inl (fun _ => 0))), (q59, .inl (cI, 62, .inl (fun _ => 0))), (q60, .inl (cI, 62, .inl (fun _ => 0))), (q61, .inl (cI, 1488, .inl (fun _ => 0))), (q62, .inl (cI, 4, .inl (fun _ => 0))), (q63, .inl (cI, 62, .inl (fun _ => 0))), (q64, .inl (cI, 62, .inl (fun _ => 0))), (q65, .inl (cI, 2, .inl (fun _ => 0))), (q66, .inl (cI, 15, .inl (fun _ => 0))), (q67, .inl (cL68, 4, .inr (.inl (fun _ => 0)))), (q69, .inl (cI, 124, .inl (fun _ => 0))), (q70, .inl (cI, 16, .inl (fun _ => 0)))] := hD
  refine W.widen (k := 74) (n := 3160) (Nat.le_of_ble_eq_true rfl) (Nat.le_of_ble_eq_true rfl) ?_
  refine lv_astore_n (lv' := [(2, .ref q54), (1, .ref q1), (0, .ref b)]) hx hb kd_law_15 rfl hl (by decide) rfl (fun ls hl => ?_)
  refine lv_iconst (v := 0) hx hb kd_law_16 (by decide) ?_
  refine lv_istore_n (lv' := [(3, .int 0), (2, .ref q54), (1, .ref q1), (0, .ref b)]) hx hb kd_law_17 rfl hl (by decide) rfl (fun ls hl => ?_)
  have hr : ∀ i, i < 8 → (kAdr [q1, q2, q3, rr5 0, rr5 1, rr5 2, rr5 3, rr5 4, rr5 5, rr5 6, rr5 7, q6, q7, q8, q9, q10, q11, q12, q13, q14, q15, q16, q17, q18, q19, q20, q21, q22, q23, q24, q25, q28, q29, q30, q31, q32, q33, q34, q35, q36, q37, q38, q39, q40, q41, q42, q43, q26, q44, q45, q46, q47, q48, q49, q50, q51, q52, q53, q54, q55, q56, q57, q58, q59, q60, q61, q62, q63, q64, q65, q66, q67, q69, q70] b t0 t1 t2) (3 + i) = rr5 i := fun i hi => by
    match i, hi with
    | 0, _ => rfl
    | 1, _ => rfl
    | 2, _ => rfl
    | 3, _ => rfl
    | 4, _ => rfl
    | 5, _ => rfl
    | 6, _ => rfl
    | 7, _ => rfl
    | k + 8, hi => omega
  have hP : va_P D vwCl (zW (kAdr [q1, q2, q3, rr5 0, rr5 1, rr5 2, rr5 3, rr5 4, rr5 5, rr5 6, rr5 7, q6, q7, q8, q9, q10, q11, q12, q13, q14, q15, q16, q17, q18, q19, q20, q21, q22, q23, q24, q25, q28, q29, q30, q31, q32, q33, q34, q35, q36, q37, q38, q39, q40, q41, q42, q43, q26, q44, q45, q46, q47, q48, q49, q50, q51, q52, q53, q54, q55, q56, q57, q58, q59, q60, q61, q62, q63, q64, q65, q66, q67, q69, q70] b t0 t1 t2) (kTC cI cL68 cC27 cR4) kH0) H := kZP hr hP
  have hD : va_D (fun q => s.heap.size ≤ q) (zW (kAdr [q1, q2, q3, rr5 0, rr5 1, rr5 2, rr5 3, rr5 4, rr5 5, rr5 6, rr5 7, q6, q7, q8, q9, q10, q11, q12, q13, q14, q15, q16, q17, q18, q19, q20, q21, q22, q23, q24, q25, q28, q29, q30, q31, q32, q33, q34, q35, q36, q37, q38, q39, q40, q41, q42, q43, q26, q44, q45, q46, q47, q48, q49, q50, q51, q52, q53, q54, q55, q56, q57, q58, q59, q60, q61, q62, q63, q64, q65, q66, q67, q69, q70] b t0 t1 t2) (kTC cI cL68 cC27 cR4) kH0) := by
    rw [← hAe]
    exact kZD hr hD
  have hS : va_S (fun q => s.heap.size ≤ q) s.heap H locs := by
    rw [← hAe]
    exact hS
  have hK : va_K D vwCl (zTy (kTC cI cL68 cC27 cR4)) s := hK.sub [0, 3, 2, 1] rfl
  refine W.widen (k := 600000) (n := 7302250) (Nat.le_of_ble_eq_true rfl) (Nat.le_of_ble_eq_true rfl) ?_
  exact kFin hk hops hJ0 (adr := (kAdr [q1, q2, q3, rr5 0, rr5 1, rr5 2, rr5 3, rr5 4, rr5 5, rr5 6, rr5 7, q6, q7, q8, q9, q10, q11, q12, q13, q14, q15, q16, q17, q18, q19, q20, q21, q22, q23, q24, q25, q28, q29, q30, q31, q32, q33, q34, q35, q36, q37, q38, q39, q40, q41, q42, q43, q26, q44, q45, q46, q47, q48, q49, q50, q51, q52, q53, q54, q55, q56, q57, q58, q59, q60, q61, q62, q63, q64, q65, q66, q67, q69, q70] b t0 t1 t2)) (tC := (kTC cI cL68 cC27 cR4)) l hL C0 rfl ⟨hZ0, hZ1, hZ2⟩ hts hK hP hD hS (lv_sub hl [3, 2, 1, 0] rfl)

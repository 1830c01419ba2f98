/-! the constructor of the rows -/
theorem zInner (c : ClassId) : Jvm.Free.Multi.innerC c 40 (defaultValue .int) = vp_cell c (40, .inl (fun _ => 0)) := by
  rw [vp_cell_i]
  exact arrV_new c 40 (.int 0)
theorem kdX8_0 : decode cX8_init 0 = .ok (.aload_n 0, 1) := by decide +kernel
theorem kdX8_1 : decode cX8_init 1 = .ok (.invokespecial 1, 3) := by decide +kernel
theorem kdX8_4 : decode cX8_init 4 = .ok (.aload_n 0, 1) := by decide +kernel
theorem kdX8_5 : decode cX8_init 5 = .ok (.bipush 8, 2) := by decide +kernel
theorem kdX8_7 : decode cX8_init 7 = .ok (.bipush 40, 2) := by decide +kernel
theorem kdX8_9 : decode cX8_init 9 = .ok (.multianewarray 9 2, 4) := by decide +kernel
theorem kdX8_13 : decode cX8_init 13 = .ok (.putfield 11, 3) := by decide +kernel
theorem kdX8_16 : decode cX8_init 16 = .ok (.aload_n 0, 1) := by decide +kernel
theorem kdX8_17 : decode cX8_init 17 = .ok (.bipush 8, 2) := by decide +kernel
theorem kdX8_19 : decode cX8_init 19 = .ok (.newarray .int, 2) := by decide +kernel
theorem kdX8_21 : decode cX8_init 21 = .ok (.putfield 14, 3) := by decide +kernel
theorem kdX8_24 : decode cX8_init 24 = .ok (.aload_n 0, 1) := by decide +kernel
theorem kdX8_25 : decode cX8_init 25 = .ok (.bipush 8, 2) := by decide +kernel
theorem kdX8_27 : decode cX8_init 27 = .ok (.newarray .int, 2) := by decide +kernel
theorem kdX8_29 : decode cX8_init 29 = .ok (.putfield 18, 3) := by decide +kernel
theorem kdX8_32 : decode cX8_init 32 = .ok (.iconst 0, 1) := by decide +kernel
theorem kdX8_33 : decode cX8_init 33 = .ok (.istore_n 1, 1) := by decide +kernel
theorem kdX8_34 : decode cX8_init 34 = .ok (.iload_n 1, 1) := by decide +kernel
theorem kdX8_35 : decode cX8_init 35 = .ok (.bipush 8, 2) := by decide +kernel
theorem kdX8_37 : decode cX8_init 37 = .ok (.if_icmp .ge 16, 3) := by decide +kernel
theorem kdX8_40 : decode cX8_init 40 = .ok (.aload_n 0, 1) := by decide +kernel
theorem kdX8_41 : decode cX8_init 41 = .ok (.getfield 18, 3) := by decide +kernel
theorem kdX8_44 : decode cX8_init 44 = .ok (.iload_n 1, 1) := by decide +kernel
theorem kdX8_45 : decode cX8_init 45 = .ok (.iconst (-1), 1) := by decide +kernel
theorem kdX8_46 : decode cX8_init 46 = .ok (.iastore, 1) := by decide +kernel
theorem kdX8_47 : decode cX8_init 47 = .ok (.iinc 1 1, 3) := by decide +kernel
theorem kdX8_50 : decode cX8_init 50 = .ok (.goto (-16), 3) := by decide +kernel
theorem kdX8_53 : decode cX8_init 53 = .ok (.return_, 1) := by decide +kernel
abbrev kB_X8 (D : va_G) (cI : ClassId) (h0 : Nat) (A : Nat → Prop) (t : State) : Prop := ∃ (q1 : Nat), ∃ (cR2 : ClassId), ∃ (rr : Nat → Nat), ∃ (q3 : Nat), ∃ (q4 : Nat), va_P D vwCl [(h0, .inr (6, [.ref q1, .ref q3, .ref q4])), (q1, .inl (cR2, 8, .inr (.inr (.inr (.inr (fun i => if i < 8 then some (rr i) else none)))))), (rr 0, .inl (cI, 40, .inl (fun _ => 0))), (rr 1, .inl (cI, 40, .inl (fun _ => 0))), (rr 2, .inl (cI, 40, .inl (fun _ => 0))), (rr 3, .inl (cI, 40, .inl (fun _ => 0))), (rr 4, .inl (cI, 40, .inl (fun _ => 0))), (rr 5, .inl (cI, 40, .inl (fun _ => 0))), (rr 6, .inl (cI, 40, .inl (fun _ => 0))), (rr 7, .inl (cI, 40, .inl (fun _ => 0))), (q3, .inl (cI, 8, .inl (fun _ => 0))), (q4, .inl (cI, 8, .inl (upd (upd (upd (upd (upd (upd (upd (upd (fun _ => 0) 0 (-1)) 1 (-1)) 2 (-1)) 3 (-1)) 4 (-1)) 5 (-1)) 6 (-1)) 7 (-1))))] t.heap ∧ va_K D vwCl [(cI, .int), (cR2, .array .int)] t ∧ va_D A [(h0, .inr (6, [.ref q1, .ref q3, .ref q4])), (q1, .inl (cR2, 8, .inr (.inr (.inr (.inr (fun i => if i < 8 then some (rr i) else none)))))), (rr 0, .inl (cI, 40, .inl (fun _ => 0))), (rr 1, .inl (cI, 40, .inl (fun _ => 0))), (rr 2, .inl (cI, 40, .inl (fun _ => 0))), (rr 3, .inl (cI, 40, .inl (fun _ => 0))), (rr 4, .inl (cI, 40, .inl (fun _ => 0))), (rr 5, .inl (cI, 40, .inl (fun _ => 0))), (rr 6, .inl (cI, 40, .inl (fun _ => 0))), (rr 7, .inl (cI, 40, .inl (fun _ => 0))), (q3, .inl (cI, 8, .inl (fun _ => 0))), (q4, .inl (cI, 8, .inl (upd (upd (upd (upd (upd (upd (upd (upd (fun _ => 0) 0 (-1)) 1 (-1)) 2 (-1)) 3 (-1)) 4 (-1)) 5 (-1)) 6 (-1)) 7 (-1))))]
set_option maxHeartbeats 4000000 in
set_option maxRecDepth 100000 in
theorem k_X8 (l : Launch) (D : va_G) (cI : ClassId) (h0 sz : Nat) : Met l yX8_init (kws yX8_init cX8_init 2) ({ frames := 1, cells := 11, slots := 344, locals := 12 }) (va_Pc [.ref h0] (fun U => U.heap.size = sz ∧ va_P D vwCl [(h0, .inr (6, [.null, .null, .null]))] U.heap ∧ va_K D vwCl [(cI, .int)] U ∧ va_D (fun _ => True) [(h0, .inr (6, [.null, .null, .null]))] ∧ (fun U => zAO U) U)) (va_Qv (fun _ : Unit => True) (fun _ t => kB_X8 D cI h0 (va_A [(h0, .inr (6, [.null, .null, .null]))] sz) t) (va_A [(h0, .inr (6, [.null, .null, .null]))] sz)) 11 344 (va_A [(h0, .inr (6, [.null, .null, .null]))] sz) := by
  refine Met.ofW (cc := cX8_init) (maxL := 2) (ret := none) (by decide) rfl ?_
  intro p e s m args below meth c s₁ B hml hv
  obtain ⟨rfl, hsz, hP, hK, hD0, hex⟩ := hv
  have hx := B.exec
  have hb := B.bytes
  have hr := B.returns
  have hts := atoms_spec (ws := kws yX8_init cX8_init 2) B.pre
  have hown : s.vm.findClass RX8 = some m.cls := findClass_of_methodNamed B.named
  have hlocks := B.notSynchronized
  have hin : meth.name = "<init>" := (name_of_methodNamed B.named B.method).1
  subst hsz
  have hD := hD0.self (sz := s.heap.size)
  generalize hAe : va_A [(h0, .inr (6, [.null, .null, .null]))] s.heap.size = A at hD ⊢
  have hA : ∀ q : Nat, s.heap.size ≤ q → A q := fun q h => by rw [← hAe]; exact Or.inr h
  have hS : va_S A s.heap s.heap [] := va_S.rf
  have hl := lv_entry ([.ref h0]) (n := 2) (Nat.le_of_ble_eq_true rfl)
  rw [lg_entry_eq]
  generalize (lg_sl ([.ref h0]) ++ List.replicate (2 - (lg_sl ([.ref h0])).length) Slot.unset).toArray = ls at hl ⊢
  have hl : lv_has ls 2 [(0, .ref h0)] := hl
  have hAOA := hex
  have hcI : s.vm.findClass (FieldType.array .int).toString = some cI := (hK.2 0 _ rfl).2
  refine lv_aload_n hx hb kdX8_0 rfl (lv_at hl 0 rfl) ?_
  refine W.objInit hx hb hown (hts (.methodLink RX8 1 objectInit) (List.mem_cons_of_mem _ (zTb_at (i := 85) (by decide +kernel) (by decide +kernel)))) (hts (.instanceMethod objectInit) (List.mem_cons_of_mem _ (zTb_at (i := 78) (by decide +kernel) (by decide +kernel)))) (hts (.code objectInit ⟨#[0xb1]⟩ 1 none) (List.mem_cons_of_mem _ (zTb_at (i := 79) (by decide +kernel) (by decide +kernel)))) rfl (by rw [hml]; exact hl.1) rfl kdX8_1 (Nat.le_of_ble_eq_true rfl) (Nat.le_of_ble_eq_true rfl) ?_
  refine W.eq (g2 := F0 m 4 ls []) rfl ?_
  refine lv_aload_n hx hb kdX8_4 rfl (lv_at hl 0 rfl) ?_
  refine lv_bipush (v := 8) hx hb kdX8_5 (by decide) ?_
  refine lv_bipush (v := 40) hx hb kdX8_7 (by decide) ?_
  refine zMna (ty := .int) (cy := cI) (z := (40, .inl (fun _ => 0))) hx hb hown (hts (.classLink RX8 9 "[[I") (List.mem_cons_of_mem _ (zTb_at (i := 86) (by decide +kernel) (by decide +kernel)))) hAOA.use (hts (.arrayClass .int) (List.mem_cons_of_mem _ (zTb_at (i := 98) (by decide +kernel) (by decide +kernel)))) hcI hK hP hD hS hA (n := 8) (k := 40) (N' := 8) (K' := 40) (by decide) (by decide) (by decide) (by decide) (by decide) (by decide) (by decide) rfl rfl (Nat.le_of_ble_eq_true rfl) (Nat.le_of_ble_eq_true rfl) (fun c => zInner c) kdX8_9 (fun q1 rr cR2 H hK hP hD hS => ?_)
  have hK : va_K D vwCl [(cI, .int), (cR2, .array .int)] s := hK
  have hP : va_P D vwCl [(h0, .inr (6, [.null, .null, .null])), (q1, .inl (cR2, 8, .inr (.inr (.inr (.inr (fun i => if i < 8 then some (rr i) else none)))))), (rr 0, .inl (cI, 40, .inl (fun _ => 0))), (rr 1, .inl (cI, 40, .inl (fun _ => 0))), (rr 2, .inl (cI, 40, .inl (fun _ => 0))), (rr 3, .inl (cI, 40, .inl (fun _ => 0))), (rr 4, .inl (cI, 40, .inl (fun _ => 0))), (rr 5, .inl (cI, 40, .inl (fun _ => 0))), (rr 6, .inl (cI, 40, .inl (fun _ => 0))), (rr 7, .inl (cI, 40, .inl (fun _ => 0)))] H := hP
  have hD : va_D A [(h0, .inr (6, [.null, .null, .null])), (q1, .inl (cR2, 8, .inr (.inr (.inr (.inr (fun i => if i < 8 then some (rr i) else none)))))), (rr 0, .inl (cI, 40, .inl (fun _ => 0))), (rr 1, .inl (cI, 40, .inl (fun _ => 0))), (rr 2, .inl (cI, 40, .inl (fun _ => 0))), (rr 3, .inl (cI, 40, .inl (fun _ => 0))), (rr 4, .inl (cI, 40, .inl (fun _ => 0))), (rr 5, .inl (cI, 40, .inl (fun _ => 0))), (rr 6, .inl (cI, 40, .inl (fun _ => 0))), (rr 7, .inl (cI, 40, .inl (fun _ => 0)))] := hD
  refine W.widen (k := 9) (n := 328) (Nat.le_of_ble_eq_true rfl) (Nat.le_of_ble_eq_true rfl) ?_
  refine va_putF (D := D) (ci := 6) (v := .ref q1) (ty := .array (.array (.int))) (C := RX8) (T := TX8) (N := 3) hx hb hts (fun w h => List.mem_cons_of_mem _ ((zCls 6 _ rfl).1 w h)) tyX8 tyX8_ok nmX8 hown hK hP hD hS 0 rfl rfl 0 (by decide) (hts (.fieldLink RX8 11 "MapItch$Rows" "items" "[[I") (List.mem_cons_of_mem _ (zTb_at (i := 88) (by decide +kernel) (by decide +kernel)))) (fun _ h9 => h9) rfl hin rfl (by decide +kernel) rfl rfl (Nat.le_of_ble_eq_true rfl) kdX8_13 (fun H locs hP hD hS => ?_)
  have hP : va_P D vwCl [(h0, .inr (6, [.ref q1, .null, .null])), (q1, .inl (cR2, 8, .inr (.inr (.inr (.inr (fun i => if i < 8 then some (rr i) else none)))))), (rr 0, .inl (cI, 40, .inl (fun _ => 0))), (rr 1, .inl (cI, 40, .inl (fun _ => 0))), (rr 2, .inl (cI, 40, .inl (fun _ => 0))), (rr 3, .inl (cI, 40, .inl (fun _ => 0))), (rr 4, .inl (cI, 40, .inl (fun _ => 0))), (rr 5, .inl (cI, 40, .inl (fun _ => 0))), (rr 6, .inl (cI, 40, .inl (fun _ => 0))), (rr 7, .inl (cI, 40, .inl (fun _ => 0)))] H := hP
  have hD : va_D A [(h0, .inr (6, [.ref q1, .null, .null])), (q1, .inl (cR2, 8, .inr (.inr (.inr (.inr (fun i => if i < 8 then some (rr i) else none)))))), (rr 0, .inl (cI, 40, .inl (fun _ => 0))), (rr 1, .inl (cI, 40, .inl (fun _ => 0))), (rr 2, .inl (cI, 40, .inl (fun _ => 0))), (rr 3, .inl (cI, 40, .inl (fun _ => 0))), (rr 4, .inl (cI, 40, .inl (fun _ => 0))), (rr 5, .inl (cI, 40, .inl (fun _ => 0))), (rr 6, .inl (cI, 40, .inl (fun _ => 0))), (rr 7, .inl (cI, 40, .inl (fun _ => 0)))] := hD
  refine lv_aload_n hx hb kdX8_16 rfl (lv_at hl 0 rfl) ?_
  refine lv_bipush (v := 8) hx hb kdX8_17 (by decide) ?_
  refine zNewI hx hb (hts (.arrayClass .int) (List.mem_cons_of_mem _ (zTb_at (i := 98) (by decide +kernel) (by decide +kernel)))) hK hP hD hS hA 0 rfl (N' := 8) (by decide) (by decide) (by decide) (Nat.le_of_ble_eq_true rfl) (Nat.le_of_ble_eq_true rfl) kdX8_19 (fun q3 H hP hD hS => ?_)
  have hP : va_P D vwCl [(h0, .inr (6, [.ref q1, .null, .null])), (q1, .inl (cR2, 8, .inr (.inr (.inr (.inr (fun i => if i < 8 then some (rr i) else none)))))), (rr 0, .inl (cI, 40, .inl (fun _ => 0))), (rr 1, .inl (cI, 40, .inl (fun _ => 0))), (rr 2, .inl (cI, 40, .inl (fun _ => 0))), (rr 3, .inl (cI, 40, .inl (fun _ => 0))), (rr 4, .inl (cI, 40, .inl (fun _ => 0))), (rr 5, .inl (cI, 40, .inl (fun _ => 0))), (rr 6, .inl (cI, 40, .inl (fun _ => 0))), (rr 7, .inl (cI, 40, .inl (fun _ => 0))), (q3, .inl (cI, 8, .inl (fun _ => 0)))] H := hP
  have hD : va_D A [(h0, .inr (6, [.ref q1, .null, .null])), (q1, .inl (cR2, 8, .inr (.inr (.inr (.inr (fun i => if i < 8 then some (rr i) else none)))))), (rr 0, .inl (cI, 40, .inl (fun _ => 0))), (rr 1, .inl (cI, 40, .inl (fun _ => 0))), (rr 2, .inl (cI, 40, .inl (fun _ => 0))), (rr 3, .inl (cI, 40, .inl (fun _ => 0))), (rr 4, .inl (cI, 40, .inl (fun _ => 0))), (rr 5, .inl (cI, 40, .inl (fun _ => 0))), (rr 6, .inl (cI, 40, .inl (fun _ => 0))), (rr 7, .inl (cI, 40, .inl (fun _ => 0))), (q3, .inl (cI, 8, .inl (fun _ => 0)))] := hD
  refine W.widen (k := 10) (n := 336) (Nat.le_of_ble_eq_true rfl) (Nat.le_of_ble_eq_true rfl) ?_
  refine va_putF (D := D) (ci := 6) (v := .ref q3) (ty := .array (.int)) (C := RX8) (T := TX8) (N := 3) hx hb hts (fun w h => List.mem_cons_of_mem _ ((zCls 6 _ rfl).1 w h)) tyX8 tyX8_ok nmX8 hown hK hP hD hS 0 rfl rfl 1 (by decide) (hts (.fieldLink RX8 14 "MapItch$Rows" "lanes" "[I") (List.mem_cons_of_mem _ (zTb_at (i := 89) (by decide +kernel) (by decide +kernel)))) (fun _ h9 => h9) rfl hin rfl (by decide +kernel) rfl rfl (Nat.le_of_ble_eq_true rfl) kdX8_21 (fun H locs hP hD hS => ?_)
  have hP : va_P D vwCl [(h0, .inr (6, [.ref q1, .ref q3, .null])), (q1, .inl (cR2, 8, .inr (.inr (.inr (.inr (fun i => if i < 8 then some (rr i) else none)))))), (rr 0, .inl (cI, 40, .inl (fun _ => 0))), (rr 1, .inl (cI, 40, .inl (fun _ => 0))), (rr 2, .inl (cI, 40, .inl (fun _ => 0))), (rr 3, .inl (cI, 40, .inl (fun _ => 0))), (rr 4, .inl (cI, 40, .inl (fun _ => 0))), (rr 5, .inl (cI, 40, .inl (fun _ => 0))), (rr 6, .inl (cI, 40, .inl (fun _ => 0))), (rr 7, .inl (cI, 40, .inl (fun _ => 0))), (q3, .inl (cI, 8, .inl (fun _ => 0)))] H := hP
  have hD : va_D A [(h0, .inr (6, [.ref q1, .ref q3, .null])), (q1, .inl (cR2, 8, .inr (.inr (.inr (.inr (fun i => if i < 8 then some (rr i) else none)))))), (rr 0, .inl (cI, 40, .inl (fun _ => 0))), (rr 1, .inl (cI, 40, .inl (fun _ => 0))), (rr 2, .inl (cI, 40, .inl (fun _ => 0))), (rr 3, .inl (cI, 40, .inl (fun _ => 0))), (rr 4, .inl (cI, 40, .inl (fun _ => 0))), (rr 5, .inl (cI, 40, .inl (fun _ => 0))), (rr 6, .inl (cI, 40, .inl (fun _ => 0))), (rr 7, .inl (cI, 40, .inl (fun _ => 0))), (q3, .inl (cI, 8, .inl (fun _ => 0)))] := hD
  refine lv_aload_n hx hb kdX8_24 rfl (lv_at hl 0 rfl) ?_
  refine lv_bipush (v := 8) hx hb kdX8_25 (by decide) ?_
  refine zNewI hx hb (hts (.arrayClass .int) (List.mem_cons_of_mem _ (zTb_at (i := 98) (by decide +kernel) (by decide +kernel)))) hK hP hD hS hA 0 rfl (N' := 8) (by decide) (by decide) (by decide) (Nat.le_of_ble_eq_true rfl) (Nat.le_of_ble_eq_true rfl) kdX8_27 (fun q4 H hP hD hS => ?_)
  have hP : va_P D vwCl [(h0, .inr (6, [.ref q1, .ref q3, .null])), (q1, .inl (cR2, 8, .inr (.inr (.inr (.inr (fun i => if i < 8 then some (rr i) else none)))))), (rr 0, .inl (cI, 40, .inl (fun _ => 0))), (rr 1, .inl (cI, 40, .inl (fun _ => 0))), (rr 2, .inl (cI, 40, .inl (fun _ => 0))), (rr 3, .inl (cI, 40, .inl (fun _ => 0))), (rr 4, .inl (cI, 40, .inl (fun _ => 0))), (rr 5, .inl (cI, 40, .inl (fun _ => 0))), (rr 6, .inl (cI, 40, .inl (fun _ => 0))), (rr 7, .inl (cI, 40, .inl (fun _ => 0))), (q3, .inl (cI, 8, .inl (fun _ => 0))), (q4, .inl (cI, 8, .inl (fun _ => 0)))] H := hP
  have hD : va_D A [(h0, .inr (6, [.ref q1, .ref q3, .null])), (q1, .inl (cR2, 8, .inr (.inr (.inr (.inr (fun i => if i < 8 then some (rr i) else none)))))), (rr 0, .inl (cI, 40, .inl (fun _ => 0))), (rr 1, .inl (cI, 40, .inl (fun _ => 0))), (rr 2, .inl (cI, 40, .inl (fun _ => 0))), (rr 3, .inl (cI, 40, .inl (fun _ => 0))), (rr 4, .inl (cI, 40, .inl (fun _ => 0))), (rr 5, .inl (cI, 40, .inl (fun _ => 0))), (rr 6, .inl (cI, 40, .inl (fun _ => 0))), (rr 7, .inl (cI, 40, .inl (fun _ => 0))), (q3, .inl (cI, 8, .inl (fun _ => 0))), (q4, .inl (cI, 8, .inl (fun _ => 0)))] := hD
  refine W.widen (k := 11) (n := 344) (Nat.le_of_ble_eq_true rfl) (Nat.le_of_ble_eq_true rfl) ?_
  refine va_putF (D := D) (ci := 6) (v := .ref q4) (ty := .array (.int)) (C := RX8) (T := TX8) (N := 3) hx hb hts (fun w h => List.mem_cons_of_mem _ ((zCls 6 _ rfl).1 w h)) tyX8 tyX8_ok nmX8 hown hK hP hD hS 0 rfl rfl 2 (by decide) (hts (.fieldLink RX8 18 "MapItch$Rows" "lengths" "[I") (List.mem_cons_of_mem _ (zTb_at (i := 90) (by decide +kernel) (by decide +kernel)))) (fun _ h9 => h9) rfl hin rfl (by decide +kernel) rfl rfl (Nat.le_of_ble_eq_true rfl) kdX8_29 (fun H locs hP hD hS => ?_)
  have hP : va_P D vwCl [(h0, .inr (6, [.ref q1, .ref q3, .ref q4])), (q1, .inl (cR2, 8, .inr (.inr (.inr (.inr (fun i => if i < 8 then some (rr i) else none)))))), (rr 0, .inl (cI, 40, .inl (fun _ => 0))), (rr 1, .inl (cI, 40, .inl (fun _ => 0))), (rr 2, .inl (cI, 40, .inl (fun _ => 0))), (rr 3, .inl (cI, 40, .inl (fun _ => 0))), (rr 4, .inl (cI, 40, .inl (fun _ => 0))), (rr 5, .inl (cI, 40, .inl (fun _ => 0))), (rr 6, .inl (cI, 40, .inl (fun _ => 0))), (rr 7, .inl (cI, 40, .inl (fun _ => 0))), (q3, .inl (cI, 8, .inl (fun _ => 0))), (q4, .inl (cI, 8, .inl (fun _ => 0)))] H := hP
  have hD : va_D A [(h0, .inr (6, [.ref q1, .ref q3, .ref q4])), (q1, .inl (cR2, 8, .inr (.inr (.inr (.inr (fun i => if i < 8 then some (rr i) else none)))))), (rr 0, .inl (cI, 40, .inl (fun _ => 0))), (rr 1, .inl (cI, 40, .inl (fun _ => 0))), (rr 2, .inl (cI, 40, .inl (fun _ => 0))), (rr 3, .inl (cI, 40, .inl (fun _ => 0))), (rr 4, .inl (cI, 40, .inl (fun _ => 0))), (rr 5, .inl (cI, 40, .inl (fun _ => 0))), (rr 6, .inl (cI, 40, .inl (fun _ => 0))), (rr 7, .inl (cI, 40, .inl (fun _ => 0))), (q3, .inl (cI, 8, .inl (fun _ => 0))), (q4, .inl (cI, 8, .inl (fun _ => 0)))] := hD
  refine lv_iconst (v := 0) hx hb kdX8_32 (by decide) ?_
  refine lv_istore_n (lv' := [(1, .int 0), (0, .ref h0)]) hx hb kdX8_33 rfl hl (by decide) rfl (fun ls hl => ?_)
  refine lv_iload_n hx hb kdX8_34 rfl (lv_at hl 0 rfl) ?_
  refine lv_bipush (v := 8) hx hb kdX8_35 (by decide) ?_
  refine lv_icmp_ge (tgt := 53) hx hb kdX8_37 (by decide) (fun h => absurd h (by decide)) (fun _ => ?_)
  refine lv_aload_n hx hb kdX8_40 rfl (lv_at hl 1 rfl) ?_
  refine va_get (D := D) (ci := 6) (C := RX8) (T := TX8) (N := 3) hx hb hts (fun w h => List.mem_cons_of_mem _ ((zCls 6 _ rfl).1 w h)) hown hK hP 0 rfl rfl 2 (by decide) (hts (.fieldLink RX8 18 "MapItch$Rows" "lengths" "[I") (List.mem_cons_of_mem _ (zTb_at (i := 90) (by decide +kernel) (by decide +kernel)))) (fun _ h9 => h9) (v := .ref q4) rfl kdX8_41 ?_
  refine lv_iload_n hx hb kdX8_44 rfl (lv_at hl 0 rfl) ?_
  refine lv_iconst (v := -1) hx hb kdX8_45 (by decide) ?_
  refine va_iast hx hb hK hP hD hS 11 0 rfl rfl (by unfold vp_in; decide) kdX8_46 (fun H locs hP hD hS => ?_)
  have hP : va_P D vwCl [(h0, .inr (6, [.ref q1, .ref q3, .ref q4])), (q1, .inl (cR2, 8, .inr (.inr (.inr (.inr (fun i => if i < 8 then some (rr i) else none)))))), (rr 0, .inl (cI, 40, .inl (fun _ => 0))), (rr 1, .inl (cI, 40, .inl (fun _ => 0))), (rr 2, .inl (cI, 40, .inl (fun _ => 0))), (rr 3, .inl (cI, 40, .inl (fun _ => 0))), (rr 4, .inl (cI, 40, .inl (fun _ => 0))), (rr 5, .inl (cI, 40, .inl (fun _ => 0))), (rr 6, .inl (cI, 40, .inl (fun _ => 0))), (rr 7, .inl (cI, 40, .inl (fun _ => 0))), (q3, .inl (cI, 8, .inl (fun _ => 0))), (q4, .inl (cI, 8, .inl (upd (fun _ => 0) 0 (-1))))] H := hP
  have hD : va_D A [(h0, .inr (6, [.ref q1, .ref q3, .ref q4])), (q1, .inl (cR2, 8, .inr (.inr (.inr (.inr (fun i => if i < 8 then some (rr i) else none)))))), (rr 0, .inl (cI, 40, .inl (fun _ => 0))), (rr 1, .inl (cI, 40, .inl (fun _ => 0))), (rr 2, .inl (cI, 40, .inl (fun _ => 0))), (rr 3, .inl (cI, 40, .inl (fun _ => 0))), (rr 4, .inl (cI, 40, .inl (fun _ => 0))), (rr 5, .inl (cI, 40, .inl (fun _ => 0))), (rr 6, .inl (cI, 40, .inl (fun _ => 0))), (rr 7, .inl (cI, 40, .inl (fun _ => 0))), (q3, .inl (cI, 8, .inl (fun _ => 0))), (q4, .inl (cI, 8, .inl (upd (fun _ => 0) 0 (-1))))] := hD
  refine lv_iinc (v := 1) (lv' := [(1, .int 1), (0, .ref h0)]) hx hb kdX8_47 hl (k := 0) rfl (by decide) (by decide) rfl (fun ls hl => ?_)
  refine lv_goto (tgt := 34) hx hb kdX8_50 (by decide) ?_
  refine lv_iload_n hx hb kdX8_34 rfl (lv_at hl 0 rfl) ?_
  refine lv_bipush (v := 8) hx hb kdX8_35 (by decide) ?_
  refine lv_icmp_ge (tgt := 53) hx hb kdX8_37 (by decide) (fun h => absurd h (by decide)) (fun _ => ?_)
  refine lv_aload_n hx hb kdX8_40 rfl (lv_at hl 1 rfl) ?_
  refine va_get (D := D) (ci := 6) (C := RX8) (T := TX8) (N := 3) hx hb hts (fun w h => List.mem_cons_of_mem _ ((zCls 6 _ rfl).1 w h)) hown hK hP 0 rfl rfl 2 (by decide) (hts (.fieldLink RX8 18 "MapItch$Rows" "lengths" "[I") (List.mem_cons_of_mem _ (zTb_at (i := 90) (by decide +kernel) (by decide +kernel)))) (fun _ h9 => h9) (v := .ref q4) rfl kdX8_41 ?_
  refine lv_iload_n hx hb kdX8_44 rfl (lv_at hl 0 rfl) ?_
  refine lv_iconst (v := -1) hx hb kdX8_45 (by decide) ?_
  refine va_iast hx hb hK hP hD hS 11 0 rfl rfl (by unfold vp_in; decide) kdX8_46 (fun H locs hP hD hS => ?_)
  have hP : va_P D vwCl [(h0, .inr (6, [.ref q1, .ref q3, .ref q4])), (q1, .inl (cR2, 8, .inr (.inr (.inr (.inr (fun i => if i < 8 then some (rr i) else none)))))), (rr 0, .inl (cI, 40, .inl (fun _ => 0))), (rr 1, .inl (cI, 40, .inl (fun _ => 0))), (rr 2, .inl (cI, 40, .inl (fun _ => 0))), (rr 3, .inl (cI, 40, .inl (fun _ => 0))), (rr 4, .inl (cI, 40, .inl (fun _ => 0))), (rr 5, .inl (cI, 40, .inl (fun _ => 0))), (rr 6, .inl (cI, 40, .inl (fun _ => 0))), (rr 7, .inl (cI, 40, .inl (fun _ => 0))), (q3, .inl (cI, 8, .inl (fun _ => 0))), (q4, .inl (cI, 8, .inl (upd (upd (fun _ => 0) 0 (-1)) 1 (-1))))] H := hP
  have hD : va_D A [(h0, .inr (6, [.ref q1, .ref q3, .ref q4])), (q1, .inl (cR2, 8, .inr (.inr (.inr (.inr (fun i => if i < 8 then some (rr i) else none)))))), (rr 0, .inl (cI, 40, .inl (fun _ => 0))), (rr 1, .inl (cI, 40, .inl (fun _ => 0))), (rr 2, .inl (cI, 40, .inl (fun _ => 0))), (rr 3, .inl (cI, 40, .inl (fun _ => 0))), (rr 4, .inl (cI, 40, .inl (fun _ => 0))), (rr 5, .inl (cI, 40, .inl (fun _ => 0))), (rr 6, .inl (cI, 40, .inl (fun _ => 0))), (rr 7, .inl (cI, 40, .inl (fun _ => 0))), (q3, .inl (cI, 8, .inl (fun _ => 0))), (q4, .inl (cI, 8, .inl (upd (upd (fun _ => 0) 0 (-1)) 1 (-1))))] := hD
  refine lv_iinc (v := 2) (lv' := [(1, .int 2), (0, .ref h0)]) hx hb kdX8_47 hl (k := 0) rfl (by decide) (by decide) rfl (fun ls hl => ?_)
  refine lv_goto (tgt := 34) hx hb kdX8_50 (by decide) ?_
  refine lv_iload_n hx hb kdX8_34 rfl (lv_at hl 0 rfl) ?_
  refine lv_bipush (v := 8) hx hb kdX8_35 (by decide) ?_
  refine lv_icmp_ge (tgt := 53) hx hb kdX8_37 (by decide) (fun h => absurd h (by decide)) (fun _ => ?_)
  refine lv_aload_n hx hb kdX8_40 rfl (lv_at hl 1 rfl) ?_
  refine va_get (D := D) (ci := 6) (C := RX8) (T := TX8) (N := 3) hx hb hts (fun w h => List.mem_cons_of_mem _ ((zCls 6 _ rfl).1 w h)) hown hK hP 0 rfl rfl 2 (by decide) (hts (.fieldLink RX8 18 "MapItch$Rows" "lengths" "[I") (List.mem_cons_of_mem _ (zTb_at (i := 90) (by decide +kernel) (by decide +kernel)))) (fun _ h9 => h9) (v := .ref q4) rfl kdX8_41 ?_
  refine lv_iload_n hx hb kdX8_44 rfl (lv_at hl 0 rfl) ?_
  refine lv_iconst (v := -1) hx hb kdX8_45 (by decide) ?_
  refine va_iast hx hb hK hP hD hS 11 0 rfl rfl (by unfold vp_in; decide) kdX8_46 (fun H locs hP hD hS => ?_)
  have hP : va_P D vwCl [(h0, .inr (6, [.ref q1, .ref q3, .ref q4])), (q1, .inl (cR2, 8, .inr (.inr (.inr (.inr (fun i => if i < 8 then some (rr i) else none)))))), (rr 0, .inl (cI, 40, .inl (fun _ => 0))), (rr 1, .inl (cI, 40, .inl (fun _ => 0))), (rr 2, .inl (cI, 40, .inl (fun _ => 0))), (rr 3, .inl (cI, 40, .inl (fun _ => 0))), (rr 4, .inl (cI, 40, .inl (fun _ => 0))), (rr 5, .inl (cI, 40, .inl (fun _ => 0))), (rr 6, .inl (cI, 40, .inl (fun _ => 0))), (rr 7, .inl (cI, 40, .inl (fun _ => 0))), (q3, .inl (cI, 8, .inl (fun _ => 0))), (q4, .inl (cI, 8, .inl (upd (upd (upd (fun _ => 0) 0 (-1)) 1 (-1)) 2 (-1))))] H := hP
  have hD : va_D A [(h0, .inr (6, [.ref q1, .ref q3, .ref q4])), (q1, .inl (cR2, 8, .inr (.inr (.inr (.inr (fun i => if i < 8 then some (rr i) else none)))))), (rr 0, .inl (cI, 40, .inl (fun _ => 0))), (rr 1, .inl (cI, 40, .inl (fun _ => 0))), (rr 2, .inl (cI, 40, .inl (fun _ => 0))), (rr 3, .inl (cI, 40, .inl (fun _ => 0))), (rr 4, .inl (cI, 40, .inl (fun _ => 0))), (rr 5, .inl (cI, 40, .inl (fun _ => 0))), (rr 6, .inl (cI, 40, .inl (fun _ => 0))), (rr 7, .inl (cI, 40, .inl (fun _ => 0))), (q3, .inl (cI, 8, .inl (fun _ => 0))), (q4, .inl (cI, 8, .inl (upd (upd (upd (fun _ => 0) 0 (-1)) 1 (-1)) 2 (-1))))] := hD
  refine lv_iinc (v := 3) (lv' := [(1, .int 3), (0, .ref h0)]) hx hb kdX8_47 hl (k := 0) rfl (by decide) (by decide) rfl (fun ls hl => ?_)
  refine lv_goto (tgt := 34) hx hb kdX8_50 (by decide) ?_
  refine lv_iload_n hx hb kdX8_34 rfl (lv_at hl 0 rfl) ?_
  refine lv_bipush (v := 8) hx hb kdX8_35 (by decide) ?_
  refine lv_icmp_ge (tgt := 53) hx hb kdX8_37 (by decide) (fun h => absurd h (by decide)) (fun _ => ?_)
  refine lv_aload_n hx hb kdX8_40 rfl (lv_at hl 1 rfl) ?_
  refine va_get (D := D) (ci := 6) (C := RX8) (T := TX8) (N := 3) hx hb hts (fun w h => List.mem_cons_of_mem _ ((zCls 6 _ rfl).1 w h)) hown hK hP 0 rfl rfl 2 (by decide) (hts (.fieldLink RX8 18 "MapItch$Rows" "lengths" "[I") (List.mem_cons_of_mem _ (zTb_at (i := 90) (by decide +kernel) (by decide +kernel)))) (fun _ h9 => h9) (v := .ref q4) rfl kdX8_41 ?_
  refine lv_iload_n hx hb kdX8_44 rfl (lv_at hl 0 rfl) ?_
  refine lv_iconst (v := -1) hx hb kdX8_45 (by decide) ?_
  refine va_iast hx hb hK hP hD hS 11 0 rfl rfl (by unfold vp_in; decide) kdX8_46 (fun H locs hP hD hS => ?_)
  have hP : va_P D vwCl [(h0, .inr (6, [.ref q1, .ref q3, .ref q4])), (q1, .inl (cR2, 8, .inr (.inr (.inr (.inr (fun i => if i < 8 then some (rr i) else none)))))), (rr 0, .inl (cI, 40, .inl (fun _ => 0))), (rr 1, .inl (cI, 40, .inl (fun _ => 0))), (rr 2, .inl (cI, 40, .inl (fun _ => 0))), (rr 3, .inl (cI, 40, .inl (fun _ => 0))), (rr 4, .inl (cI, 40, .inl (fun _ => 0))), (rr 5, .inl (cI, 40, .inl (fun _ => 0))), (rr 6, .inl (cI, 40, .inl (fun _ => 0))), (rr 7, .inl (cI, 40, .inl (fun _ => 0))), (q3, .inl (cI, 8, .inl (fun _ => 0))), (q4, .inl (cI, 8, .inl (upd (upd (upd (upd (fun _ => 0) 0 (-1)) 1 (-1)) 2 (-1)) 3 (-1))))] H := hP
  have hD : va_D A [(h0, .inr (6, [.ref q1, .ref q3, .ref q4])), (q1, .inl (cR2, 8, .inr (.inr (.inr (.inr (fun i => if i < 8 then some (rr i) else none)))))), (rr 0, .inl (cI, 40, .inl (fun _ => 0))), (rr 1, .inl (cI, 40, .inl (fun _ => 0))), (rr 2, .inl (cI, 40, .inl (fun _ => 0))), (rr 3, .inl (cI, 40, .inl (fun _ => 0))), (rr 4, .inl (cI, 40, .inl (fun _ => 0))), (rr 5, .inl (cI, 40, .inl (fun _ => 0))), (rr 6, .inl (cI, 40, .inl (fun _ => 0))), (rr 7, .inl (cI, 40, .inl (fun _ => 0))), (q3, .inl (cI, 8, .inl (fun _ => 0))), (q4, .inl (cI, 8, .inl (upd (upd (upd (upd (fun _ => 0) 0 (-1)) 1 (-1)) 2 (-1)) 3 (-1))))] := hD
  refine lv_iinc (v := 4) (lv' := [(1, .int 4), (0, .ref h0)]) hx hb kdX8_47 hl (k := 0) rfl (by decide) (by decide) rfl (fun ls hl => ?_)
  refine lv_goto (tgt := 34) hx hb kdX8_50 (by decide) ?_
  refine lv_iload_n hx hb kdX8_34 rfl (lv_at hl 0 rfl) ?_
  refine lv_bipush (v := 8) hx hb kdX8_35 (by decide) ?_
  refine lv_icmp_ge (tgt := 53) hx hb kdX8_37 (by decide) (fun h => absurd h (by decide)) (fun _ => ?_)
  refine lv_aload_n hx hb kdX8_40 rfl (lv_at hl 1 rfl) ?_
  refine va_get (D := D) (ci := 6) (C := RX8) (T := TX8) (N := 3) hx hb hts (fun w h => List.mem_cons_of_mem _ ((zCls 6 _ rfl).1 w h)) hown hK hP 0 rfl rfl 2 (by decide) (hts (.fieldLink RX8 18 "MapItch$Rows" "lengths" "[I") (List.mem_cons_of_mem _ (zTb_at (i := 90) (by decide +kernel) (by decide +kernel)))) (fun _ h9 => h9) (v := .ref q4) rfl kdX8_41 ?_
  refine lv_iload_n hx hb kdX8_44 rfl (lv_at hl 0 rfl) ?_
  refine lv_iconst (v := -1) hx hb kdX8_45 (by decide) ?_
  refine va_iast hx hb hK hP hD hS 11 0 rfl rfl (by unfold vp_in; decide) kdX8_46 (fun H locs hP hD hS => ?_)
  have hP : va_P D vwCl [(h0, .inr (6, [.ref q1, .ref q3, .ref q4])), (q1, .inl (cR2, 8, .inr (.inr (.inr (.inr (fun i => if i < 8 then some (rr i) else none)))))), (rr 0, .inl (cI, 40, .inl (fun _ => 0))), (rr 1, .inl (cI, 40, .inl (fun _ => 0))), (rr 2, .inl (cI, 40, .inl (fun _ => 0))), (rr 3, .inl (cI, 40, .inl (fun _ => 0))), (rr 4, .inl (cI, 40, .inl (fun _ => 0))), (rr 5, .inl (cI, 40, .inl (fun _ => 0))), (rr 6, .inl (cI, 40, .inl (fun _ => 0))), (rr 7, .inl (cI, 40, .inl (fun _ => 0))), (q3, .inl (cI, 8, .inl (fun _ => 0))), (q4, .inl (cI, 8, .inl (upd (upd (upd (upd (upd (fun _ => 0) 0 (-1)) 1 (-1)) 2 (-1)) 3 (-1)) 4 (-1))))] H := hP
  have hD : va_D A [(h0, .inr (6, [.ref q1, .ref q3, .ref q4])), (q1, .inl (cR2, 8, .inr (.inr (.inr (.inr (fun i => if i < 8 then some (rr i) else none)))))), (rr 0, .inl (cI, 40, .inl (fun _ => 0))), (rr 1, .inl (cI, 40, .inl (fun _ => 0))), (rr 2, .inl (cI, 40, .inl (fun _ => 0))), (rr 3, .inl (cI, 40, .inl (fun _ => 0))), (rr 4, .inl (cI, 40, .inl (fun _ => 0))), (rr 5, .inl (cI, 40, .inl (fun _ => 0))), (rr 6, .inl (cI, 40, .inl (fun _ => 0))), (rr 7, .inl (cI, 40, .inl (fun _ => 0))), (q3, .inl (cI, 8, .inl (fun _ => 0))), (q4, .inl (cI, 8, .inl (upd (upd (upd (upd (upd (fun _ => 0) 0 (-1)) 1 (-1)) 2 (-1)) 3 (-1)) 4 (-1))))] := hD
  refine lv_iinc (v := 5) (lv' := [(1, .int 5), (0, .ref h0)]) hx hb kdX8_47 hl (k := 0) rfl (by decide) (by decide) rfl (fun ls hl => ?_)
  refine lv_goto (tgt := 34) hx hb kdX8_50 (by decide) ?_
  refine lv_iload_n hx hb kdX8_34 rfl (lv_at hl 0 rfl) ?_
  refine lv_bipush (v := 8) hx hb kdX8_35 (by decide) ?_
  refine lv_icmp_ge (tgt := 53) hx hb kdX8_37 (by decide) (fun h => absurd h (by decide)) (fun _ => ?_)
  refine lv_aload_n hx hb kdX8_40 rfl (lv_at hl 1 rfl) ?_
  refine va_get (D := D) (ci := 6) (C := RX8) (T := TX8) (N := 3) hx hb hts (fun w h => List.mem_cons_of_mem _ ((zCls 6 _ rfl).1 w h)) hown hK hP 0 rfl rfl 2 (by decide) (hts (.fieldLink RX8 18 "MapItch$Rows" "lengths" "[I") (List.mem_cons_of_mem _ (zTb_at (i := 90) (by decide +kernel) (by decide +kernel)))) (fun _ h9 => h9) (v := .ref q4) rfl kdX8_41 ?_
  refine lv_iload_n hx hb kdX8_44 rfl (lv_at hl 0 rfl) ?_
  refine lv_iconst (v := -1) hx hb kdX8_45 (by decide) ?_
  refine va_iast hx hb hK hP hD hS 11 0 rfl rfl (by unfold vp_in; decide) kdX8_46 (fun H locs hP hD hS => ?_)
  have hP : va_P D vwCl [(h0, .inr (6, [.ref q1, .ref q3, .ref q4])), (q1, .inl (cR2, 8, .inr (.inr (.inr (.inr (fun i => if i < 8 then some (rr i) else none)))))), (rr 0, .inl (cI, 40, .inl (fun _ => 0))), (rr 1, .inl (cI, 40, .inl (fun _ => 0))), (rr 2, .inl (cI, 40, .inl (fun _ => 0))), (rr 3, .inl (cI, 40, .inl (fun _ => 0))), (rr 4, .inl (cI, 40, .inl (fun _ => 0))), (rr 5, .inl (cI, 40, .inl (fun _ => 0))), (rr 6, .inl (cI, 40, .inl (fun _ => 0))), (rr 7, .inl (cI, 40, .inl (fun _ => 0))), (q3, .inl (cI, 8, .inl (fun _ => 0))), (q4, .inl (cI, 8, .inl (upd (upd (upd (upd (upd (upd (fun _ => 0) 0 (-1)) 1 (-1)) 2 (-1)) 3 (-1)) 4 (-1)) 5 (-1))))] H := hP
  have hD : va_D A [(h0, .inr (6, [.ref q1, .ref q3, .ref q4])), (q1, .inl (cR2, 8, .inr (.inr (.inr (.inr (fun i => if i < 8 then some (rr i) else none)))))), (rr 0, .inl (cI, 40, .inl (fun _ => 0))), (rr 1, .inl (cI, 40, .inl (fun _ => 0))), (rr 2, .inl (cI, 40, .inl (fun _ => 0))), (rr 3, .inl (cI, 40, .inl (fun _ => 0))), (rr 4, .inl (cI, 40, .inl (fun _ => 0))), (rr 5, .inl (cI, 40, .inl (fun _ => 0))), (rr 6, .inl (cI, 40, .inl (fun _ => 0))), (rr 7, .inl (cI, 40, .inl (fun _ => 0))), (q3, .inl (cI, 8, .inl (fun _ => 0))), (q4, .inl (cI, 8, .inl (upd (upd (upd (upd (upd (upd (fun _ => 0) 0 (-1)) 1 (-1)) 2 (-1)) 3 (-1)) 4 (-1)) 5 (-1))))] := hD
  refine lv_iinc (v := 6) (lv' := [(1, .int 6), (0, .ref h0)]) hx hb kdX8_47 hl (k := 0) rfl (by decide) (by decide) rfl (fun ls hl => ?_)
  refine lv_goto (tgt := 34) hx hb kdX8_50 (by decide) ?_
  refine lv_iload_n hx hb kdX8_34 rfl (lv_at hl 0 rfl) ?_
  refine lv_bipush (v := 8) hx hb kdX8_35 (by decide) ?_
  refine lv_icmp_ge (tgt := 53) hx hb kdX8_37 (by decide) (fun h => absurd h (by decide)) (fun _ => ?_)
  refine lv_aload_n hx hb kdX8_40 rfl (lv_at hl 1 rfl) ?_
  refine va_get (D := D) (ci := 6) (C := RX8) (T := TX8) (N := 3) hx hb hts (fun w h => List.mem_cons_of_mem _ ((zCls 6 _ rfl).1 w h)) hown hK hP 0 rfl rfl 2 (by decide) (hts (.fieldLink RX8 18 "MapItch$Rows" "lengths" "[I") (List.mem_cons_of_mem _ (zTb_at (i := 90) (by decide +kernel) (by decide +kernel)))) (fun _ h9 => h9) (v := .ref q4) rfl kdX8_41 ?_
  refine lv_iload_n hx hb kdX8_44 rfl (lv_at hl 0 rfl) ?_
  refine lv_iconst (v := -1) hx hb kdX8_45 (by decide) ?_
  refine va_iast hx hb hK hP hD hS 11 0 rfl rfl (by unfold vp_in; decide) kdX8_46 (fun H locs hP hD hS => ?_)
  have hP : va_P D vwCl [(h0, .inr (6, [.ref q1, .ref q3, .ref q4])), (q1, .inl (cR2, 8, .inr (.inr (.inr (.inr (fun i => if i < 8 then some (rr i) else none)))))), (rr 0, .inl (cI, 40, .inl (fun _ => 0))), (rr 1, .inl (cI, 40, .inl (fun _ => 0))), (rr 2, .inl (cI, 40, .inl (fun _ => 0))), (rr 3, .inl (cI, 40, .inl (fun _ => 0))), (rr 4, .inl (cI, 40, .inl (fun _ => 0))), (rr 5, .inl (cI, 40, .inl (fun _ => 0))), (rr 6, .inl (cI, 40, .inl (fun _ => 0))), (rr 7, .inl (cI, 40, .inl (fun _ => 0))), (q3, .inl (cI, 8, .inl (fun _ => 0))), (q4, .inl (cI, 8, .inl (upd (upd (upd (upd (upd (upd (upd (fun _ => 0) 0 (-1)) 1 (-1)) 2 (-1)) 3 (-1)) 4 (-1)) 5 (-1)) 6 (-1))))] H := hP
  have hD : va_D A [(h0, .inr (6, [.ref q1, .ref q3, .ref q4])), (q1, .inl (cR2, 8, .inr (.inr (.inr (.inr (fun i => if i < 8 then some (rr i) else none)))))), (rr 0, .inl (cI, 40, .inl (fun _ => 0))), (rr 1, .inl (cI, 40, .inl (fun _ => 0))), (rr 2, .inl (cI, 40, .inl (fun _ => 0))), (rr 3, .inl (cI, 40, .inl (fun _ => 0))), (rr 4, .inl (cI, 40, .inl (fun _ => 0))), (rr 5, .inl (cI, 40, .inl (fun _ => 0))), (rr 6, .inl (cI, 40, .inl (fun _ => 0))), (rr 7, .inl (cI, 40, .inl (fun _ => 0))), (q3, .inl (cI, 8, .inl (fun _ => 0))), (q4, .inl (cI, 8, .inl (upd (upd (upd (upd (upd (upd (upd (fun _ => 0) 0 (-1)) 1 (-1)) 2 (-1)) 3 (-1)) 4 (-1)) 5 (-1)) 6 (-1))))] := hD
  refine lv_iinc (v := 7) (lv' := [(1, .int 7), (0, .ref h0)]) hx hb kdX8_47 hl (k := 0) rfl (by decide) (by decide) rfl (fun ls hl => ?_)
  refine lv_goto (tgt := 34) hx hb kdX8_50 (by decide) ?_
  refine lv_iload_n hx hb kdX8_34 rfl (lv_at hl 0 rfl) ?_
  refine lv_bipush (v := 8) hx hb kdX8_35 (by decide) ?_
  refine lv_icmp_ge (tgt := 53) hx hb kdX8_37 (by decide) (fun h => absurd h (by decide)) (fun _ => ?_)
  refine lv_aload_n hx hb kdX8_40 rfl (lv_at hl 1 rfl) ?_
  refine va_get (D := D) (ci := 6) (C := RX8) (T := TX8) (N := 3) hx hb hts (fun w h => List.mem_cons_of_mem _ ((zCls 6 _ rfl).1 w h)) hown hK hP 0 rfl rfl 2 (by decide) (hts (.fieldLink RX8 18 "MapItch$Rows" "lengths" "[I") (List.mem_cons_of_mem _ (zTb_at (i := 90) (by decide +kernel) (by decide +kernel)))) (fun _ h9 => h9) (v := .ref q4) rfl kdX8_41 ?_
  refine lv_iload_n hx hb kdX8_44 rfl (lv_at hl 0 rfl) ?_
  refine lv_iconst (v := -1) hx hb kdX8_45 (by decide) ?_
  refine va_iast hx hb hK hP hD hS 11 0 rfl rfl (by unfold vp_in; decide) kdX8_46 (fun H locs hP hD hS => ?_)
  have hP : va_P D vwCl [(h0, .inr (6, [.ref q1, .ref q3, .ref q4])), (q1, .inl (cR2, 8, .inr (.inr (.inr (.inr (fun i => if i < 8 then some (rr i) else none)))))), (rr 0, .inl (cI, 40, .inl (fun _ => 0))), (rr 1, .inl (cI, 40, .inl (fun _ => 0))), (rr 2, .inl (cI, 40, .inl (fun _ => 0))), (rr 3, .inl (cI, 40, .inl (fun _ => 0))), (rr 4, .inl (cI, 40, .inl (fun _ => 0))), (rr 5, .inl (cI, 40, .inl (fun _ => 0))), (rr 6, .inl (cI, 40, .inl (fun _ => 0))), (rr 7, .inl (cI, 40, .inl (fun _ => 0))), (q3, .inl (cI, 8, .inl (fun _ => 0))), (q4, .inl (cI, 8, .inl (upd (upd (upd (upd (upd (upd (upd (upd (fun _ => 0) 0 (-1)) 1 (-1)) 2 (-1)) 3 (-1)) 4 (-1)) 5 (-1)) 6 (-1)) 7 (-1))))] H := hP
  have hD : va_D A [(h0, .inr (6, [.ref q1, .ref q3, .ref q4])), (q1, .inl (cR2, 8, .inr (.inr (.inr (.inr (fun i => if i < 8 then some (rr i) else none)))))), (rr 0, .inl (cI, 40, .inl (fun _ => 0))), (rr 1, .inl (cI, 40, .inl (fun _ => 0))), (rr 2, .inl (cI, 40, .inl (fun _ => 0))), (rr 3, .inl (cI, 40, .inl (fun _ => 0))), (rr 4, .inl (cI, 40, .inl (fun _ => 0))), (rr 5, .inl (cI, 40, .inl (fun _ => 0))), (rr 6, .inl (cI, 40, .inl (fun _ => 0))), (rr 7, .inl (cI, 40, .inl (fun _ => 0))), (q3, .inl (cI, 8, .inl (fun _ => 0))), (q4, .inl (cI, 8, .inl (upd (upd (upd (upd (upd (upd (upd (upd (fun _ => 0) 0 (-1)) 1 (-1)) 2 (-1)) 3 (-1)) 4 (-1)) 5 (-1)) 6 (-1)) 7 (-1))))] := hD
  refine lv_iinc (v := 8) (lv' := [(1, .int 8), (0, .ref h0)]) hx hb kdX8_47 hl (k := 0) rfl (by decide) (by decide) rfl (fun ls hl => ?_)
  refine lv_goto (tgt := 34) hx hb kdX8_50 (by decide) ?_
  refine lv_iload_n hx hb kdX8_34 rfl (lv_at hl 0 rfl) ?_
  refine lv_bipush (v := 8) hx hb kdX8_35 (by decide) ?_
  refine lv_icmp_ge (tgt := 53) hx hb kdX8_37 (by decide) (fun _ => ?_) (fun h => absurd (by decide) h)
  exact W.vret hx hb hr (fun t ht hW => ⟨⟨(), rfl, trivial, ⟨q1, cR2, rr, q3, q4, by rw [ht]; exact hP, va_K.moved hW.alike hK, hD⟩⟩, hS.F ht⟩) hS.2.2 kdX8_53

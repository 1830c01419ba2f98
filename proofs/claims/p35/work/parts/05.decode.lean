def zOk (e : zE) : Prop := zChk (zb e) (zk e) = true ∧ lw_tbl[e.2.1.1]? = some (.code (zy e) (zb e) (zx e) (zr e))
theorem zOkAll : ∀ e ∈ zP, zOk e := fun e he => ⟨zCk_ok _ (zb e).data.toList 0 (List.all_eq_true.mp zdaAll e he) rfl, zWk_ok (List.all_eq_true.mp zdbAll e he)⟩

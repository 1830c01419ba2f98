/-! each method decodes as its list says; its code is among the words -/
theorem zdaAll : (zP.all fun e => zCk (zb e) (zb e).data.toList 0 (zk e)) = true := by decide +kernel

/-! each summary is checked -/
theorem sc_339 : aChk sT_339 inlL 193 sy_339 sh_339 37 = true := by decide +kernel
theorem sc_340 : aChk sT_340 inlL 195 sy_340 sh_340 81 = true := by decide +kernel
theorem sc_342 : aChk sT_342 inlL 199 sy_342 sh_342 72 = true := by decide +kernel
theorem sc_343 : aChk sT_343 inlL 200 sy_343 sh_343 31 = true := by decide +kernel
theorem sc_344 : aChk sT_344 inlL 201 sy_344 sh_344 28 = true := by decide +kernel
theorem sc_345 : aChk sT_345 inlL 202 sy_345 sh_345 39 = true := by decide +kernel
theorem sc_346 : aChk sT_346 inlL 204 sy_346 sh_346 65 = true := by decide +kernel
theorem sc_347 : aChk sT_347 inlL 213 sy_347 sh_347 68 = true := by decide +kernel
theorem sc_348 : aChk sT_348 inlL 214 sy_348 sh_348 25 = true := by decide +kernel
theorem sc_349 : aChk sT_349 inlL 215 sy_349 sh_349 25 = true := by decide +kernel
theorem sc_350 : aChk sT_350 inlL 127 sy_350 sh_350 5 = true := by decide +kernel

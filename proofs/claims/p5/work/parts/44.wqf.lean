/-! segments: the reference, on -/

/-! ===== the law, by its labels (7) ===== -/
theorem okLaw_180 : ((List.range' 180 6).all fun l => okOps 365 (dpc 365 l) (dcode 365 l)) = true := by decide +kernel
theorem okLaw_186 : ((List.range' 186 6).all fun l => okOps 365 (dpc 365 l) (dcode 365 l)) = true := by decide +kernel
theorem okLaw_192 : ((List.range' 192 4).all fun l => okOps 365 (dpc 365 l) (dcode 365 l)) = true := by decide +kernel

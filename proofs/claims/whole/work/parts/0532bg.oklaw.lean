/-! ===== the law, by its labels (7) ===== -/
theorem okLaw_176 : ((List.range' 176 6).all fun l => okOps 365 (dpc 365 l) (dcode 365 l)) = true := by decide +kernel
theorem okLaw_182 : ((List.range' 182 4).all fun l => okOps 365 (dpc 365 l) (dcode 365 l)) = true := by decide +kernel
theorem okLaw_186 : ((List.range' 186 4).all fun l => okOps 365 (dpc 365 l) (dcode 365 l)) = true := by decide +kernel
theorem okLaw_190 : ((List.range' 190 6).all fun l => okOps 365 (dpc 365 l) (dcode 365 l)) = true := by decide +kernel

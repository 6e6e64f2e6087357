/-! ===== the law, by its labels (1) ===== -/
theorem okLaw_0 : ((List.range' 0 6).all fun l => okOps 365 (dpc 365 l) (dcode 365 l)) = true := by decide +kernel
theorem okLaw_6 : ((List.range' 6 6).all fun l => okOps 365 (dpc 365 l) (dcode 365 l)) = true := by decide +kernel
theorem okLaw_12 : ((List.range' 12 6).all fun l => okOps 365 (dpc 365 l) (dcode 365 l)) = true := by decide +kernel
theorem okLaw_18 : ((List.range' 18 6).all fun l => okOps 365 (dpc 365 l) (dcode 365 l)) = true := by decide +kernel
theorem okLaw_24 : ((List.range' 24 6).all fun l => okOps 365 (dpc 365 l) (dcode 365 l)) = true := by decide +kernel

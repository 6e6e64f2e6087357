/-! ===== the law, by its labels (2) ===== -/
theorem okLaw_30 : ((List.range' 30 6).all fun l => okOps 365 (dpc 365 l) (dcode 365 l)) = true := by decide +kernel
theorem okLaw_36 : ((List.range' 36 6).all fun l => okOps 365 (dpc 365 l) (dcode 365 l)) = true := by decide +kernel
theorem okLaw_42 : ((List.range' 42 6).all fun l => okOps 365 (dpc 365 l) (dcode 365 l)) = true := by decide +kernel
theorem okLaw_48 : ((List.range' 48 6).all fun l => okOps 365 (dpc 365 l) (dcode 365 l)) = true := by decide +kernel
theorem okLaw_54 : ((List.range' 54 6).all fun l => okOps 365 (dpc 365 l) (dcode 365 l)) = true := by decide +kernel

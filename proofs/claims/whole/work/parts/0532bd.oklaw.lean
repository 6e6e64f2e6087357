/-! ===== the law, by its labels (4) ===== -/
theorem okLaw_54 : ((List.range' 54 1).all fun l => okOps 365 (dpc 365 l) (dcode 365 l)) = true := by decide +kernel
theorem okLaw_55 : ((List.range' 55 1).all fun l => okOps 365 (dpc 365 l) (dcode 365 l)) = true := by decide +kernel
theorem okLaw_56 : ((List.range' 56 1).all fun l => okOps 365 (dpc 365 l) (dcode 365 l)) = true := by decide +kernel
theorem okLaw_57 : ((List.range' 57 1).all fun l => okOps 365 (dpc 365 l) (dcode 365 l)) = true := by decide +kernel
theorem okLaw_58 : ((List.range' 58 1).all fun l => okOps 365 (dpc 365 l) (dcode 365 l)) = true := by decide +kernel
theorem okLaw_59 : ((List.range' 59 1).all fun l => okOps 365 (dpc 365 l) (dcode 365 l)) = true := by decide +kernel
theorem okLaw_60 : ((List.range' 60 2).all fun l => okOps 365 (dpc 365 l) (dcode 365 l)) = true := by decide +kernel

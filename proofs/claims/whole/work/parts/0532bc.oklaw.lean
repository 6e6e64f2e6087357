/-! ===== the law, by its labels (3) ===== -/
theorem okLaw_60 : ((List.range' 60 6).all fun l => okOps 365 (dpc 365 l) (dcode 365 l)) = true := by decide +kernel
theorem okLaw_66 : ((List.range' 66 6).all fun l => okOps 365 (dpc 365 l) (dcode 365 l)) = true := by decide +kernel
theorem okLaw_72 : ((List.range' 72 6).all fun l => okOps 365 (dpc 365 l) (dcode 365 l)) = true := by decide +kernel
theorem okLaw_78 : ((List.range' 78 6).all fun l => okOps 365 (dpc 365 l) (dcode 365 l)) = true := by decide +kernel
theorem okLaw_84 : ((List.range' 84 6).all fun l => okOps 365 (dpc 365 l) (dcode 365 l)) = true := by decide +kernel

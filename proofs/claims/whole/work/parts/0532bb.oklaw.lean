/-! ===== the law, by its labels (2) ===== -/
theorem okLaw_30 : ((List.range' 30 2).all fun l => okOps 365 (dpc 365 l) (dcode 365 l)) = true := by decide +kernel
theorem okLaw_32 : ((List.range' 32 2).all fun l => okOps 365 (dpc 365 l) (dcode 365 l)) = true := by decide +kernel
theorem okLaw_34 : ((List.range' 34 2).all fun l => okOps 365 (dpc 365 l) (dcode 365 l)) = true := by decide +kernel
theorem okLaw_36 : ((List.range' 36 1).all fun l => okOps 365 (dpc 365 l) (dcode 365 l)) = true := by decide +kernel
theorem okLaw_37 : ((List.range' 37 2).all fun l => okOps 365 (dpc 365 l) (dcode 365 l)) = true := by decide +kernel
theorem okLaw_39 : ((List.range' 39 1).all fun l => okOps 365 (dpc 365 l) (dcode 365 l)) = true := by decide +kernel
theorem okLaw_40 : ((List.range' 40 1).all fun l => okOps 365 (dpc 365 l) (dcode 365 l)) = true := by decide +kernel
theorem okLaw_41 : ((List.range' 41 1).all fun l => okOps 365 (dpc 365 l) (dcode 365 l)) = true := by decide +kernel
theorem okLaw_42 : ((List.range' 42 1).all fun l => okOps 365 (dpc 365 l) (dcode 365 l)) = true := by decide +kernel

/-! ===== the law, by its labels (4) ===== -/
theorem okLaw_90 : ((List.range' 90 6).all fun l => okOps 365 (dpc 365 l) (dcode 365 l)) = true := by decide +kernel
theorem okLaw_96 : ((List.range' 96 6).all fun l => okOps 365 (dpc 365 l) (dcode 365 l)) = true := by decide +kernel
theorem okLaw_102 : ((List.range' 102 6).all fun l => okOps 365 (dpc 365 l) (dcode 365 l)) = true := by decide +kernel
theorem okLaw_108 : ((List.range' 108 6).all fun l => okOps 365 (dpc 365 l) (dcode 365 l)) = true := by decide +kernel
theorem okLaw_114 : ((List.range' 114 6).all fun l => okOps 365 (dpc 365 l) (dcode 365 l)) = true := by decide +kernel

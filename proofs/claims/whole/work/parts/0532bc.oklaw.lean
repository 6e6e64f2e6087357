/-! ===== the law, by its labels (3) ===== -/
theorem okLaw_43 : ((List.range' 43 1).all fun l => okOps 365 (dpc 365 l) (dcode 365 l)) = true := by decide +kernel
theorem okLaw_44 : ((List.range' 44 2).all fun l => okOps 365 (dpc 365 l) (dcode 365 l)) = true := by decide +kernel
theorem okLaw_46 : ((List.range' 46 2).all fun l => okOps 365 (dpc 365 l) (dcode 365 l)) = true := by decide +kernel
theorem okLaw_48 : ((List.range' 48 1).all fun l => okOps 365 (dpc 365 l) (dcode 365 l)) = true := by decide +kernel
theorem okLaw_49 : ((List.range' 49 2).all fun l => okOps 365 (dpc 365 l) (dcode 365 l)) = true := by decide +kernel
theorem okLaw_51 : ((List.range' 51 1).all fun l => okOps 365 (dpc 365 l) (dcode 365 l)) = true := by decide +kernel
theorem okLaw_52 : ((List.range' 52 1).all fun l => okOps 365 (dpc 365 l) (dcode 365 l)) = true := by decide +kernel
theorem okLaw_53 : ((List.range' 53 1).all fun l => okOps 365 (dpc 365 l) (dcode 365 l)) = true := by decide +kernel

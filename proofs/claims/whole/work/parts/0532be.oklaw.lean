/-! ===== the law, by its labels (5) ===== -/
theorem okLaw_62 : ((List.range' 62 1).all fun l => okOps 365 (dpc 365 l) (dcode 365 l)) = true := by decide +kernel
theorem okLaw_63 : ((List.range' 63 1).all fun l => okOps 365 (dpc 365 l) (dcode 365 l)) = true := by decide +kernel
theorem okLaw_64 : ((List.range' 64 8).all fun l => okOps 365 (dpc 365 l) (dcode 365 l)) = true := by decide +kernel
theorem okLaw_72 : ((List.range' 72 20).all fun l => okOps 365 (dpc 365 l) (dcode 365 l)) = true := by decide +kernel
theorem okLaw_92 : ((List.range' 92 14).all fun l => okOps 365 (dpc 365 l) (dcode 365 l)) = true := by decide +kernel
theorem okLaw_106 : ((List.range' 106 13).all fun l => okOps 365 (dpc 365 l) (dcode 365 l)) = true := by decide +kernel
theorem okLaw_119 : ((List.range' 119 9).all fun l => okOps 365 (dpc 365 l) (dcode 365 l)) = true := by decide +kernel
theorem okLaw_128 : ((List.range' 128 8).all fun l => okOps 365 (dpc 365 l) (dcode 365 l)) = true := by decide +kernel

/-! ===== the law, by its labels (6) ===== -/
theorem okLaw_150 : ((List.range' 150 6).all fun l => okOps 365 (dpc 365 l) (dcode 365 l)) = true := by decide +kernel
theorem okLaw_156 : ((List.range' 156 6).all fun l => okOps 365 (dpc 365 l) (dcode 365 l)) = true := by decide +kernel
theorem okLaw_162 : ((List.range' 162 6).all fun l => okOps 365 (dpc 365 l) (dcode 365 l)) = true := by decide +kernel
theorem okLaw_168 : ((List.range' 168 6).all fun l => okOps 365 (dpc 365 l) (dcode 365 l)) = true := by decide +kernel
theorem okLaw_174 : ((List.range' 174 6).all fun l => okOps 365 (dpc 365 l) (dcode 365 l)) = true := by decide +kernel

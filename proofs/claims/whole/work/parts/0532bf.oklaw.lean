/-! ===== the law, by its labels (6) ===== -/
theorem okLaw_136 : ((List.range' 136 6).all fun l => okOps 365 (dpc 365 l) (dcode 365 l)) = true := by decide +kernel
theorem okLaw_142 : ((List.range' 142 6).all fun l => okOps 365 (dpc 365 l) (dcode 365 l)) = true := by decide +kernel
theorem okLaw_148 : ((List.range' 148 6).all fun l => okOps 365 (dpc 365 l) (dcode 365 l)) = true := by decide +kernel
theorem okLaw_154 : ((List.range' 154 3).all fun l => okOps 365 (dpc 365 l) (dcode 365 l)) = true := by decide +kernel
theorem okLaw_157 : ((List.range' 157 5).all fun l => okOps 365 (dpc 365 l) (dcode 365 l)) = true := by decide +kernel
theorem okLaw_162 : ((List.range' 162 5).all fun l => okOps 365 (dpc 365 l) (dcode 365 l)) = true := by decide +kernel
theorem okLaw_167 : ((List.range' 167 5).all fun l => okOps 365 (dpc 365 l) (dcode 365 l)) = true := by decide +kernel
theorem okLaw_172 : ((List.range' 172 4).all fun l => okOps 365 (dpc 365 l) (dcode 365 l)) = true := by decide +kernel

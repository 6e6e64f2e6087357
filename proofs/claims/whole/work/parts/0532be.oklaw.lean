/-! ===== the law, by its labels (5) ===== -/
theorem okLaw_120 : ((List.range' 120 6).all fun l => okOps 365 (dpc 365 l) (dcode 365 l)) = true := by decide +kernel
theorem okLaw_126 : ((List.range' 126 6).all fun l => okOps 365 (dpc 365 l) (dcode 365 l)) = true := by decide +kernel
theorem okLaw_132 : ((List.range' 132 6).all fun l => okOps 365 (dpc 365 l) (dcode 365 l)) = true := by decide +kernel
theorem okLaw_138 : ((List.range' 138 6).all fun l => okOps 365 (dpc 365 l) (dcode 365 l)) = true := by decide +kernel
theorem okLaw_144 : ((List.range' 144 6).all fun l => okOps 365 (dpc 365 l) (dcode 365 l)) = true := by decide +kernel

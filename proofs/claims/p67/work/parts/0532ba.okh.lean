/-! ===== heavy methods, by their labels ===== -/
theorem okH_167_0 : ((List.range' 0 23).all fun l => okOps 167 (dpc 167 l) (dcode 167 l)) = true := by decide +kernel
theorem okH_167_23 : ((List.range' 23 5).all fun l => okOps 167 (dpc 167 l) (dcode 167 l)) = true := by decide +kernel
theorem okH_167_28 : ((List.range' 28 4).all fun l => okOps 167 (dpc 167 l) (dcode 167 l)) = true := by decide +kernel
theorem okH_194_0 : ((List.range' 0 31).all fun l => okOps 194 (dpc 194 l) (dcode 194 l)) = true := by decide +kernel
theorem okH_194_31 : ((List.range' 31 20).all fun l => okOps 194 (dpc 194 l) (dcode 194 l)) = true := by decide +kernel
theorem okH_194_51 : ((List.range' 51 1).all fun l => okOps 194 (dpc 194 l) (dcode 194 l)) = true := by decide +kernel

/-! ===== the law, by its labels: WHILE WORKING the true part lies in wip/whole/later (it compiles long) ===== -/
theorem okM_365 : ((List.range' 365 1).all okM) = true := by sorry

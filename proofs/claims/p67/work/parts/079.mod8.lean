/-! ===== the reference's changes with more conditions; forecasts (printed by wip/whole/mod8.py) ===== -/
noncomputable section
section
variable {e : dEnv} {d b Y c : Nat} {M : bX} {m : dMem}
def bkS (s t : sV) : sV := fun j => if j < 315 then s j else t j
theorem bk_is {s t f : sV} : dCp (dCp s f 0 3150 315) t 3150 0 315 = bkS s t := by
  funext j
  unfold dCp bkS
  by_cases h : j < 315
  · have e1 : 0 + (3150 + (j - 0) - 3150) = j := by omega
    rw [if_pos (by omega), if_pos (by omega), if_pos h, e1]
  · rw [if_neg (by omega), if_neg h]
end
end

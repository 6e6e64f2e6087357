/-! ===== the reference's calls: letters, places, copies, what is kept (printed by wip/whole/mod5.py) ===== -/
noncomputable section
def letS (h : sV) (p : Nat) (x : Int32) : Int32 := bif rngB 0 5 x then (if h (p + nN x) = Int32.ofNat 0 then nM1 else h (p + nN x)) else nM1
theorem dCp_0 {α : Type} (f g : Nat → α) (sp dp : Nat) : dCp f g sp dp 0 = g := by
  funext j
  unfold dCp
  rw [if_neg (by omega)]
theorem dCp_s (f g : sV) (sp dp k : Nat) : wr (dCp f g sp dp k) (dp + k) (f (sp + k)) = dCp f g sp dp (k + 1) := by
  funext j
  unfold dCp
  by_cases q : j = dp + k
  · rw [q, wr_s, if_pos (by omega)]
    congr 1
    omega
  · rw [wr_n q]
    by_cases q2 : dp ≤ j ∧ j < dp + k
    · rw [if_pos q2, if_pos (by omega)]
    · rw [if_neg q2, if_neg (by omega)]
section
variable {e : dEnv} {d b : Nat} {M : bX} {m : dMem}
end
end

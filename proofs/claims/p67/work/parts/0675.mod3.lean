/-! ===== the reference's lists (printed by wip/whole/mod3.py) ===== -/
noncomputable section
section
variable {e : dEnv} {d b : Nat} {M : bX} {m : dMem}
theorem oI_M {k : Nat} {x : Option Nat} (h : ∀ j, x = some j → j < k) (hk : k ≤ 24) : (oI x = nM1) = (x = none) := by
  cases x with
  | none => simp [oI]
  | some j =>
    have := h j rfl
    show (Int32.ofNat j = nM1) = _
    rw [nEqM (by omega)]
    simp
end
end

/-! ===== the reference's methods that change the archive (printed by wip/whole/mod2.py) ===== -/
noncomputable section
section
variable {e : dEnv} {d b : Nat} {M : bX} {m : dMem}
end
end

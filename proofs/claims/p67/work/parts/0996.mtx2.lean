/-! ===== the reference's text: shelf, list, a letter (printed by wip/whole/tx2.py) ===== -/
noncomputable section
section
variable {e : dEnv} {d b Y : Nat} {M : bX} {l : List Nat} {m : dMem}
end
end

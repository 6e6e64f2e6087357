/-! ===== the reference's changes (printed by wip/whole/mod7.py) ===== -/
noncomputable section
section
variable {e : dEnv} {d b Y c : Nat} {M : bX} {m : dMem}
theorem rng_n {lo hi : Int} {n : Nat} (h1 : lo ≤ (n : Int)) (h2 : (n : Int) ≤ hi) (h3 : n ≤ 100000) : rngB lo hi (Int32.ofNat n) = true := by
  unfold rngB
  rw [nToI (by omega), decide_eq_true h1, decide_eq_true h2]
  rfl
end
end

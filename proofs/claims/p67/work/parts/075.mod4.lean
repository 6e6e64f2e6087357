/-! ===== the reference's calls: refusals, bounds; queries (printed by wip/whole/mod4.py) ===== -/
noncomputable section
theorem dnf (b : Bool) : (!decide (b = false)) = b := by cases b <;> rfl
def rngB (lo hi : Int) (x : Int32) : Bool := decide (lo ≤ x.toInt) && decide (x.toInt ≤ hi)
theorem rng_t {n : Nat} {x : Int32} (h : rngB 0 ((n : Int) - 1) x = true) : ∃ k, k < n ∧ x = Int32.ofNat k := by
  unfold rngB at h
  simp only [Bool.and_eq_true, decide_eq_true_eq] at h
  refine ⟨x.toInt.toNat, by omega, nOfR h.1⟩
theorem rng_k {n k : Nat} (hk : k < n) (hn : n ≤ 100000) : rngB 0 ((n : Int) - 1) (Int32.ofNat k) = true := by
  unfold rngB
  rw [nToI (by omega), decide_eq_true (by omega), decide_eq_true (by omega)]
  rfl
theorem lgLt (x y : Int64) : (lg_cmp x y < Int32.ofNat 0) = (x.toInt < y.toInt) := propext ((lg_cmp_lt x y).trans Int64.lt_iff_toInt_lt)
theorem lgGt (x y : Int64) : (Int32.ofNat 0 < lg_cmp x y) = (y.toInt < x.toInt) := propext ((lg_cmp_gt x y).trans Int64.lt_iff_toInt_lt)
theorem hi_n {n : Nat} (h : n ≤ 100000) : (Int32.ofNat n - Int32.ofNat 1).toInt64.toInt = (n : Int) - 1 := by
  rw [Int32.toInt_toInt64]
  cases n with
  | zero => decide +kernel
  | succ n =>
    rw [nSub (by omega), nToI (by omega)]
    omega
section
variable {e : dEnv} {d b : Nat} {M : bX} {m : dMem}
end
end

/-! ===== digits of a number (printed by wip/whole/sb.py) ===== -/
noncomputable section
section
variable {e : dEnv} {d a n : Nat} {m : dMem}
theorem ngI {v : Nat} (h : v < 2147483648) : (-(Int32.ofNat v)).toInt = -(v : Int) := by
  rw [Int32.toInt_neg, nToI h, Int.bmod_def]
  split <;> omega
theorem cmK {c : Int32} {N v : Nat} (hv : v < 2147483648) (hc : c.toInt = -(N : Int)) : (c < -(Int32.ofNat v)) = (v < N) := by
  rw [Int32.lt_iff_toInt_lt, ngI hv, hc]
  exact propext ⟨fun q => by omega, fun q => by omega⟩
def dgN (v : Nat) : Nat := if v < 10 then 1 else if v < 100 then 2 else if v < 1000 then 3 else if v < 10000 then 4 else if v < 100000 then 5 else if v < 1000000 then 6 else 7
theorem n385 {v : Nat} (hv : v < 256) : dN e (d + 1) 385 [.int (Int32.ofNat v)] m = rI (bI true) m := by
  refine en385 fun t ht => ?_
  obtain ⟨u, rfl⟩ := fu 9 ht rfl
  rw [q385_0, if_neg (by rw [nLt (by omega) (by omega)]; omega), q385_2, rZ_1]
theorem n383 {v : Nat} (hv : v < 10000000) : dN e (d + 1) 383 [.int (Int32.ofNat v)] m = rI (Int32.ofNat (dgN v)) m := by
  refine en383 fun t ht => ?_
  obtain ⟨u, rfl⟩ := fu 30 ht rfl
  have z0 : ¬ Int32.ofNat v < Int32.ofNat 0 := by rw [nLt (by omega) (by omega)]; omega
  unfold dgN
  rw [q383_0, if_neg z0, q383_1]
  rw [q383_2, if_pos (by decide +kernel)]
  by_cases h1 : v < 10
  · rw [if_pos (by rw [cmK (N := 10) (by omega) (by decide +kernel)]; exact h1), if_pos h1]
    rfl
  rw [if_neg (by rw [cmK (N := 10) (by omega) (by decide +kernel)]; exact h1), if_neg h1, q383_3]
  rw [q383_2, if_pos (by decide +kernel)]
  by_cases h2 : v < 100
  · rw [if_pos (by rw [cmK (N := 100) (by omega) (by decide +kernel)]; exact h2), if_pos h2]
    rfl
  rw [if_neg (by rw [cmK (N := 100) (by omega) (by decide +kernel)]; exact h2), if_neg h2, q383_3]
  rw [q383_2, if_pos (by decide +kernel)]
  by_cases h3 : v < 1000
  · rw [if_pos (by rw [cmK (N := 1000) (by omega) (by decide +kernel)]; exact h3), if_pos h3]
    rfl
  rw [if_neg (by rw [cmK (N := 1000) (by omega) (by decide +kernel)]; exact h3), if_neg h3, q383_3]
  rw [q383_2, if_pos (by decide +kernel)]
  by_cases h4 : v < 10000
  · rw [if_pos (by rw [cmK (N := 10000) (by omega) (by decide +kernel)]; exact h4), if_pos h4]
    rfl
  rw [if_neg (by rw [cmK (N := 10000) (by omega) (by decide +kernel)]; exact h4), if_neg h4, q383_3]
  rw [q383_2, if_pos (by decide +kernel)]
  by_cases h5 : v < 100000
  · rw [if_pos (by rw [cmK (N := 100000) (by omega) (by decide +kernel)]; exact h5), if_pos h5]
    rfl
  rw [if_neg (by rw [cmK (N := 100000) (by omega) (by decide +kernel)]; exact h5), if_neg h5, q383_3]
  rw [q383_2, if_pos (by decide +kernel)]
  by_cases h6 : v < 1000000
  · rw [if_pos (by rw [cmK (N := 1000000) (by omega) (by decide +kernel)]; exact h6), if_pos h6]
    rfl
  rw [if_neg (by rw [cmK (N := 1000000) (by omega) (by decide +kernel)]; exact h6), if_neg h6, q383_3]
  rw [q383_2, if_pos (by decide +kernel), if_pos (by rw [cmK (N := 10000000) (by omega) (by decide +kernel)]; exact hv)]
  rfl
end
end

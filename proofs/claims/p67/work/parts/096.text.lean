/-! ===== the text's object and its bytes (printed by wip/whole/sb2.py) ===== -/
noncomputable section
/-- at a lies a StringBuilder over the byte array p of length L; c bytes count; the array's numbers are w -/
def hT (a : Nat) (m : dMem) (p L c : Nat) (w : Nat → Int32) : Prop := ∃ F, m.1 a = some (.inr (1, F)) ∧ F 0 = .ref p ∧ F 1 = .int (Int32.ofNat 0) ∧ F 3 = .int (Int32.ofNat c) ∧ m.1 p = some (.inl (3, L, .inl w)) ∧ p ≠ a ∧ c ≤ L ∧ L < 100000
section
variable {e : dEnv} {d a p L c : Nat} {w : Nat → Int32} {m : dMem}
theorem t_c (Z : hT a m p L c w) : isC m a 1 = true := by
  obtain ⟨F, z, -⟩ := Z
  unfold isC
  rw [z]
  rfl
theorem t_p (Z : hT a m p L c w) : gR m a 1 0 = some p := by
  obtain ⟨F, z, z0, -⟩ := Z
  unfold gR
  simp only [z, z0, if_true]
theorem t_k (Z : hT a m p L c w) : gI m a 1 1 = some (Int32.ofNat 0) := by
  obtain ⟨F, z, z0, z1, -⟩ := Z
  unfold gI
  simp only [z, z1, if_true]
theorem t_n (Z : hT a m p L c w) : gI m a 1 3 = some (Int32.ofNat c) := by
  obtain ⟨F, z, z0, z1, z3, -⟩ := Z
  unfold gI
  simp only [z, z3, if_true]
theorem t_N (Z : hT a m p L c w) : aN m p = some (Int32.ofNat L) := by
  obtain ⟨F, z, z0, z1, z3, z4, -⟩ := Z
  unfold aN
  simp only [z4]
theorem t_w (Z : hT a m p L c w) {i : Nat} (hi : i < L) : aI m 3 p (Int32.ofNat i) = some (w i) := by
  obtain ⟨F, z, z0, z1, z3, z4, -, -, h⟩ := Z
  have q : (Int32.ofNat i).toInt = (i : Int) := nToI (by omega)
  unfold aI
  simp only [z4, q]
  rw [if_pos ⟨trivial, by omega, by omega⟩]
  rfl
theorem n376 (Z : hT a m p L c w) : dN e (d + 1) 376 [.ref a] m = rI (Int32.ofNat c) m := by
  refine en376 (t_c Z) fun t ht => ?_
  obtain ⟨u, rfl⟩ := fu 9 ht rfl
  rw [q376_0, t_n Z]
  rfl
theorem n370 (Z : hT a m p L c w) : dN e (d + 2) 370 [.ref a] m = rI (Int32.ofNat c) m := by
  refine en370 (t_c Z) fun t ht => ?_
  obtain ⟨u, rfl⟩ := fu 9 ht rfl
  rw [q370_0, n376 Z, kI_r]
theorem n380 (Z : hT a m p L c w) : dN e (d + 1) 380 [.ref a] m = rI (bI true) m := by
  refine en380 (t_c Z) fun t ht => ?_
  obtain ⟨u, rfl⟩ := fu 9 ht rfl
  rw [q380_0, if_neg (by decide +kernel), t_k Z]
  simp only [bd_s]
  rw [if_pos trivial, q380_2, rZ_1]
end
end

/-! ===== the reference's methods of the archive (printed by wip/whole/mod.py) ===== -/
noncomputable section
section
variable {e : dEnv} {d b : Nat} {M : bX} {m : dMem}
theorem okI.ex {lo hi : Nat} {x : Int32} (h : okI lo hi x) : ∃ n, x = Int32.ofNat n ∧ nN x = n ∧ lo ≤ n ∧ n ≤ hi := ⟨nN x, h.1, rfl, h.2.1, h.2.2⟩
theorem oI_s (k : Nat) : oI (some k) = Int32.ofNat k := rfl
theorem oI_n : oI none = nM1 := rfl
theorem WH_mk {h : sV} (W : WH h) : h 0 * h 1 = Int32.ofNat (mkN h) ∧ 1 ≤ mkN h ∧ mkN h ≤ 48 := by
  obtain ⟨⟨a1, a2, a3⟩, ⟨b1, b2, b3⟩, -⟩ := W
  refine ⟨?_, ?_, ?_⟩
  · rw [a1, b1, nMul]
    rfl
  · exact Nat.mul_pos (by omega) (by omega)
  · exact Nat.mul_le_mul a3 b3
end
end

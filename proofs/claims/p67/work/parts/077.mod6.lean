/-! ===== the reference's calls that change the archive (printed by wip/whole/mod6.py) ===== -/
noncomputable section
theorem stk_lo {x : Int32} {s : sV} : ∀ k, k ≤ 24 → (upF (stkF x) k (0, s)).1 ≤ k ∧ ∀ j, j < 3 ∨ 27 ≤ j → (upF (stkF x) k (0, s)).2 j = s j := by
  intro k
  induction k with
  | zero => intro _; exact ⟨Nat.le_refl _, fun _ _ => rfl⟩
  | succ k ih =>
    intro hk
    obtain ⟨i1, i2⟩ := ih (by omega)
    rw [upF_s]
    generalize upF (stkF x) k (0, s) = P at *
    unfold stkF
    split
    · exact ⟨by omega, i2⟩
    · refine ⟨by show P.1 + 1 ≤ _; omega, fun j hj => ?_⟩
      show wr P.2 (3 + P.1) (P.2 (3 + k)) j = _
      rw [wr_n (by omega)]
      exact i2 j hj
section
variable {e : dEnv} {d b : Nat} {M : bX} {m : dMem}
end
end

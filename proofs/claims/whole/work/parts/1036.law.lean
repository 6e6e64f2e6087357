/-! ===== the law, run ===== -/
noncomputable section
theorem law_run {e : dEnv} {x l0 N : Nat} {m : dMem} {f : Nat → Int32} (hx : m.2.1 = x) (he : e.1 ≤ x) (hl : l0 < x) (sc : m.1 l0 = some (.inl (0, N, .inl f))) (hN : N ≤ 3072) (D0 : hDig e x m) (St0 : hSt e x m) : ∃ mF, runL e (dN e 20) 365 dFuel 0 (some (.ref l0) :: List.replicate 8 none) [] m = rI (bI true) mF ∧ mF.2.1 ≤ m.2.1 + 601024 ∧ mF.2.2 ≤ m.2.2 + 7293033 := by
  obtain ⟨m1, r1, Z1, T1, L1, C1⟩ := k87 (e := e) (d := 16) hx he
  have e1 : m1.2.1 = x + 261 := by rw [C1]
  obtain ⟨m2, r2, B2⟩ := k163 (e := e) (d := 19) (m := m1) e1 (by omega)
  have e2 : m2.2.1 = x + 269 := by rw [B2.2.2]
  have e3 : (nA m2 1 1).2.1 = x + 270 := by
    show m2.2.1 + 1 = _
    rw [e2]
  have low : ∀ q, q < x + 269 → (nA (nA m2 1 1) 2 1).1 q = m2.1 q := fun q hq => (nA_n (by omega)).trans (nA_n (by omega))
  have low1 : ∀ q, q < x + 261 → (nA (nA m2 1 1) 2 1).1 q = m1.1 q := fun q hq => (low q (by omega)).trans (B2.2.1 q hq)
  have c4 : (nA (nA m2 1 1) 2 1).2 = (x + 271, m.2.2 + 12142) := by
    show (m2.2.1 + 1 + 1, m2.2.2 + 1 + 1) = _
    rw [B2.2.2, C1]
  have o1 : (nA (nA m2 1 1) 2 1).1 (x + 269) = some (.inl (1, 1, dDf 1)) := by
    rw [nA_n (by omega), ← e2]
    exact nA_s
  have o2 : (nA (nA m2 1 1) 2 1).1 (x + 270) = some (.inl (2, 1, dDf 2)) := by
    rw [← e3]
    exact nA_s
  have g0 : gQ 0 ≤ 1000 := by decide +kernel
  have hXh : hX (x + 259) (x + 271) (x + 275) (m.2.2 + 13142) [] (nA (nA m2 1 1) 2 1) := by
    have hT0 : hT (x + 259) (nA (nA m2 1 1) 2 1) (x + 260) (gL 0) ([] : List Nat).length (fun _ => Int32.ofNat 0) := hT_mem T1 (low1 _ (by omega)) (low1 _ (by omega))
    refine ⟨x + 260, 0, fun _ => Int32.ofNat 0, hT0, ?_, ?_, Or.inl rfl, ?_, by omega, ?_, by omega, ?_, ?_⟩
    · intro i hi
      exact absurd hi (Nat.not_lt_zero i)
    · intro v hv
      cases hv
    · rw [c4]
      show x + 260 < x + 271
      omega
    · rw [c4]
      exact Nat.le_refl _
    · rw [c4]
      exact Nat.le_refl _
    · rw [c4]
      show m.2.2 + 12142 + gQ 0 ≤ m.2.2 + 13142
      omega
  have hMh : hB TM 8 (x + 261) XM (nA (nA m2 1 1) 2 1) := fun i hi => by rw [low _ (by omega), B2.1 i hi]
  have yh : yT XM [] := ⟨rfl, Nat.zero_le _, fun i hi => absurd hi (Nat.not_lt_zero i)⟩
  have ch : CND 3000 X0 XI X0 X0 (fun _ => X0) XM := ⟨⟨0, fun _ => 0, by omega, rfl, rfl, fun _ => (show (0 : Nat) < 256 by omega), fun j hj => by omega⟩, rfl, rfl, Or.inl ⟨rfl, rfl, okI_of (by omega) (by omega) (by omega)⟩, ⟨0, 0, ⟨rfl, by omega, rfl, by omega⟩, rfl, fun i hi => by omega⟩, fun k hk => Or.inl ⟨rfl, rfl⟩⟩
  have hZ : RELX x m (x + 275) (m.2.2 + 13142) 3000 (nA (nA m2 1 1) 2 1) := ⟨X0, XI, X0, X0, fun _ => X0, XM, [], fun q hq => (low1 q (by omega)).trans (L1 q hq), hSys_low Z1 (fun q h1 h2 => low1 q (by omega)), hXh, hMh, yh, ⟨_, o1⟩, ⟨_, o2⟩, ch⟩
  obtain ⟨mF, r3, c1, c2⟩ := law_loop he hl sc (by omega) D0 St0 512 0 (x + 275) (m.2.2 + 13142) 3000 (nA (nA m2 1 1) 2 1) 3999999 (by omega) (by omega) (by omega) (by omega) (by omega) hZ
  refine ⟨mF, ?_, by omega, by omega⟩
  rw [← hx] at r1
  show runL e (dN e 20) 365 (3999999 + 1) 0 [some (.ref l0), none, none, none, none, none, none, none, none] [] m = _
  rw [q365_0, r1, kV_r, e1, r2, kV_r, t1, if_pos (by decide +kernel), if_pos (by decide +kernel), e2, e3, hx]
  exact r3
end

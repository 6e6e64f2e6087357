/-! ===== room is made (printed by wip/whole/sb5.py) ===== -/
noncomputable section
section
variable {e : dEnv} {d a p L c : Nat} {w : Nat → Int32} {m : dMem}
theorem n378_1 (Z : hT a m p L c w) {k : Nat} (h1 : L < k) (h2 : k ≤ L + (L + 2)) (h3 : L ≤ 10000) (hp : p < m.2.1) (ha : a < m.2.1) (he : e.1 ≤ a) : ∃ m2, dN e (d + 3) 378 [.ref a, .int (Int32.ofNat k)] m = some (.inl none, m2) ∧ hT a m2 m.2.1 (L + (L + 2)) c (dCp w (fun _ => 0) 0 0 L) ∧ (∀ q, q ≠ a → q ≠ m.2.1 → m2.1 q = m.1 q) ∧ m2.2 = (m.2.1 + 1, m.2.2 + (L + (L + 2))) := by
  have Z0 := Z
  obtain ⟨F, z, z0, z1, z3, z4, z5, z6, z7⟩ := Z
  have y : (cpM m (L + (L + 2)) L w).1 a = some (.inr (1, F)) := by
    show (if a = m.2.1 then _ else if a = m.2.1 then _ else m.1 a) = _
    rw [if_neg (by omega), if_neg (by omega), z]
  have g1 : pR e (cpM m (L + (L + 2)) L w) a 1 0 m.2.1 = some (dUp (cpM m (L + (L + 2)) L w) a (.inr (1, fun j => if j = 0 then .ref m.2.1 else F j))) := by
    unfold pR pV
    simp only [y]
    rw [if_pos ⟨trivial, he⟩]
  refine ⟨dUp (cpM m (L + (L + 2)) L w) a (.inr (1, fun j => if j = 0 then .ref m.2.1 else F j)), ?_, ⟨fun j => if j = 0 then .ref m.2.1 else F j, ?_, rfl, z1, z3, ?_, by omega, by omega, by omega⟩, ?_, rfl⟩
  · refine en378 (t_c Z0) fun t ht => ?_
    obtain ⟨u, rfl⟩ := fu 9 ht rfl
    rw [q378_0, t_p Z0]
    simp only [bd_s]
    rw [t_N Z0]
    simp only [bd_s]
    rw [t_k Z0]
    simp only [bd_s]
    rw [if_pos (by rw [grw (by omega) (by omega)]; exact h1), n379 Z0 h1 h2 h3, kI_r, t_k Z0]
    simp only [bd_s]
    rw [shl0, n382 Z0 (N := L + (L + 2)) (by omega) (by omega) hp (by omega)]
    show ((pR e (cpM m (L + (L + 2)) L w) a 1 0 m.2.1).bind _) = _
    rw [g1]
    simp only [bd_s]
    rw [q378_1]
  · show (if a = a then _ else _) = _
    rw [if_pos rfl]
  · show (if m.2.1 = a then _ else if m.2.1 = m.2.1 then _ else _) = _
    rw [if_neg (by omega), if_pos rfl]
  · intro q r1 r2
    show (if q = a then _ else if q = m.2.1 then _ else if q = m.2.1 then _ else m.1 q) = _
    rw [if_neg r1, if_neg r2, if_neg r2]
end
end

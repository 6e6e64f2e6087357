/-! ===== a letter is appended (printed by wip/whole/sb6.py) ===== -/
noncomputable section
section
variable {e : dEnv} {d a p L c : Nat} {w : Nat → Int32} {m m1 : dMem}
theorem n373_g (Z0 : hT a m p L c w) {p1 L1 : Nat} {w1 : Nat → Int32} (a1 : dN e (d + 3) 378 [.ref a, .int (Int32.ofNat (c + 1))] m = some (.inl none, m1)) (Z : hT a m1 p1 L1 c w1) (hc : c < L1) {v : Nat} (hv : v < 128) (he : e.1 ≤ a) (hp : e.1 ≤ p1) : ∃ m2, dN e (d + 4) 373 [.ref a, .int (Int32.ofNat v)] m = some (.inl (some (.ref a)), m2) ∧ hT a m2 p1 L1 (c + 1) (dFun w1 c (Int32.ofNat v)) ∧ (∀ q, q ≠ a → q ≠ p1 → m2.1 q = m1.1 q) ∧ m2.2 = m1.2 := by
  have Z1 := Z
  obtain ⟨F, z, z0, z1, z3, z4, z5, z6, z7⟩ := Z
  have qi : (Int32.ofNat c).toInt = (c : Int) := nToI (by omega)
  have g1 : pI e m1 a 1 3 (Int32.ofNat (c + 1)) = some (dUp m1 a (.inr (1, fun j => if j = 3 then .int (Int32.ofNat (c + 1)) else F j))) := by
    unfold pI pV
    simp only [z]
    rw [if_pos ⟨trivial, he⟩]
  have y4 : (dUp m1 a (.inr (1, fun j => if j = 3 then .int (Int32.ofNat (c + 1)) else F j))).1 p1 = some (.inl (3, L1, .inl w1)) := by
    show (if p1 = a then _ else m1.1 p1) = _
    rw [if_neg z5, z4]
  have g2 : sI e (dUp m1 a (.inr (1, fun j => if j = 3 then .int (Int32.ofNat (c + 1)) else F j))) 3 p1 (Int32.ofNat c) (Int32.ofNat v) = some (dUp (dUp m1 a (.inr (1, fun j => if j = 3 then .int (Int32.ofNat (c + 1)) else F j))) p1 (.inl (3, L1, .inl (dFun w1 c (Int32.ofNat v))))) := by
    unfold sI
    simp only [y4, qi]
    rw [if_pos ⟨trivial, hp, by omega, by omega⟩]
    have : cvI 3 (Int32.ofNat v) = Int32.ofNat v := ch8 hv
    rw [this]
    rfl
  refine ⟨dUp (dUp m1 a (.inr (1, fun j => if j = 3 then .int (Int32.ofNat (c + 1)) else F j))) p1 (.inl (3, L1, .inl (dFun w1 c (Int32.ofNat v)))), ?_, ⟨fun j => if j = 3 then .int (Int32.ofNat (c + 1)) else F j, ?_, ?_, ?_, ?_, ?_, z5, by omega, z7⟩, ?_, rfl⟩
  · refine en373 (t_c Z0) fun t ht => ?_
    obtain ⟨u, rfl⟩ := fu 9 ht rfl
    simp -implicitDefEqProofs (disch := omega) only [q373_0, t_n Z0, t_n Z1, bd_s, a1, kV_r, n380 Z1, kI_r, bI0, Bool.true_eq_false, if_false, n385 (show v < 256 by omega), t_p Z1, nAdd, g1, ch8 hv, g2, q373_3]
  · show (if a = p1 then _ else if a = a then _ else _) = _
    rw [if_neg (fun q => z5 q.symm), if_pos rfl]
  · exact z0
  · exact z1
  · rfl
  · show (if p1 = p1 then _ else _) = _
    rw [if_pos rfl]
  · intro q h1 h2
    show (if q = p1 then _ else if q = a then _ else m1.1 q) = _
    rw [if_neg h2, if_neg h1]
/-- a letter is appended where no room is left -/
theorem n373_1 (Z : hT a m p L L w) (h3 : L ≤ 10000) (hp : p < m.2.1) (ha : a < m.2.1) {v : Nat} (hv : v < 128) (he : e.1 ≤ a) : ∃ m2, dN e (d + 4) 373 [.ref a, .int (Int32.ofNat v)] m = some (.inl (some (.ref a)), m2) ∧ hT a m2 m.2.1 (L + (L + 2)) (L + 1) (dFun (dCp w (fun _ => 0) 0 0 L) L (Int32.ofNat v)) ∧ (∀ q, q ≠ a → q ≠ m.2.1 → m2.1 q = m.1 q) ∧ m2.2 = (m.2.1 + 1, m.2.2 + (L + (L + 2))) := by
  obtain ⟨m1, a1, Z1, f1, f2⟩ := n378_1 (e := e) (d := d) Z (k := L + 1) (by omega) (by omega) h3 hp ha he
  obtain ⟨m2, b1, b2, b3, b4⟩ := n373_g (e := e) (d := d) Z a1 Z1 (by omega) hv he (by omega)
  exact ⟨m2, b1, b2, fun q h1 h2 => (b3 q h1 h2).trans (f1 q h1 h2), b4.trans f2⟩
end
end

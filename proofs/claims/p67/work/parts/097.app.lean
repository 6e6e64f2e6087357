/-! ===== a letter is appended where room is (printed by wip/whole/sb3.py) ===== -/
noncomputable section
theorem sh0 (x : Int32) : (x >>> (Int32.ofNat 0 &&& 31)) = x := by
  rw [show (Int32.ofNat 0 &&& 31) = 0 from by decide +kernel]
  exact Int32.shiftRight_zero
theorem shl0 (x : Int32) : (x <<< (Int32.ofNat 0 &&& 31)) = x := by
  rw [show (Int32.ofNat 0 &&& 31) = 0 from by decide +kernel]
  exact Int32.shiftLeft_zero
theorem sbI {a b : Nat} (ha : a < 1000000) (hb : b < 1000000) : (Int32.ofNat a - Int32.ofNat b).toInt = (a : Int) - b := by
  rw [Int32.toInt_sub, nToI (by omega), nToI (by omega), Int.bmod_def]
  split <;> omega
theorem grw {a b : Nat} (ha : a < 1000000) (hb : b < 1000000) : (Int32.ofNat 0 < (Int32.ofNat a - (Int32.ofNat b >>> (Int32.ofNat 0 &&& 31)))) = (b < a) := by
  rw [sh0, Int32.lt_iff_toInt_lt, sbI ha hb, nToI (by omega)]
  exact propext ⟨fun q => by omega, fun q => by omega⟩
theorem ch8 {v : Nat} (hv : v < 128) : (Int32.ofNat v).toInt8.toInt32 = Int32.ofNat v := by
  revert hv
  revert v
  decide +kernel
section
variable {e : dEnv} {d a p L c : Nat} {w : Nat → Int32} {m : dMem}
theorem n378_0 (Z : hT a m p L c w) {k : Nat} (hk : k ≤ L) : dN e (d + 1) 378 [.ref a, .int (Int32.ofNat k)] m = some (.inl none, m) := by
  have hL : L < 100000 := by obtain ⟨F, -, -, -, -, -, -, -, h⟩ := Z; exact h
  refine en378 (t_c Z) fun t ht => ?_
  obtain ⟨u, rfl⟩ := fu 9 ht rfl
  rw [q378_0, t_p Z]
  simp only [bd_s]
  rw [t_N Z]
  simp only [bd_s]
  rw [t_k Z]
  simp only [bd_s]
  rw [if_neg (by rw [grw (by omega) (by omega)]; omega), q378_1]
/-- one more letter, where room is -/
theorem n373_0 (Z : hT a m p L c w) (hc : c < L) {v : Nat} (hv : v < 128) (he : e.1 ≤ a) (hp : e.1 ≤ p) : ∃ m2, dN e (d + 2) 373 [.ref a, .int (Int32.ofNat v)] m = some (.inl (some (.ref a)), m2) ∧ hT a m2 p L (c + 1) (dFun w c (Int32.ofNat v)) ∧ (∀ q, q ≠ a → q ≠ p → m2.1 q = m.1 q) ∧ m2.2 = m.2 := by
  have Z0 := Z
  obtain ⟨F, z, z0, z1, z3, z4, z5, z6, z7⟩ := Z
  have qi : (Int32.ofNat c).toInt = (c : Int) := nToI (by omega)
  have g1 : pI e m a 1 3 (Int32.ofNat (c + 1)) = some (dUp m a (.inr (1, fun j => if j = 3 then .int (Int32.ofNat (c + 1)) else F j))) := by
    unfold pI pV
    simp only [z]
    rw [if_pos ⟨trivial, he⟩]
  have y4 : (dUp m a (.inr (1, fun j => if j = 3 then .int (Int32.ofNat (c + 1)) else F j))).1 p = some (.inl (3, L, .inl w)) := by
    show (if p = a then _ else m.1 p) = _
    rw [if_neg z5, z4]
  have g2 : sI e (dUp m a (.inr (1, fun j => if j = 3 then .int (Int32.ofNat (c + 1)) else F j))) 3 p (Int32.ofNat c) (Int32.ofNat v) = some (dUp (dUp m a (.inr (1, fun j => if j = 3 then .int (Int32.ofNat (c + 1)) else F j))) p (.inl (3, L, .inl (dFun w c (Int32.ofNat v))))) := by
    unfold sI
    simp only [y4, qi]
    rw [if_pos ⟨trivial, hp, by omega, by omega⟩]
    have : cvI 3 (Int32.ofNat v) = Int32.ofNat v := ch8 hv
    rw [this]
    rfl
  refine ⟨dUp (dUp m a (.inr (1, fun j => if j = 3 then .int (Int32.ofNat (c + 1)) else F j))) p (.inl (3, L, .inl (dFun w c (Int32.ofNat v)))), ?_, ⟨fun j => if j = 3 then .int (Int32.ofNat (c + 1)) else F j, ?_, ?_, ?_, ?_, ?_, z5, by omega, z7⟩, ?_, rfl⟩
  · refine en373 (t_c Z0) fun t ht => ?_
    obtain ⟨u, rfl⟩ := fu 9 ht rfl
    have a1 : dN e (d + 1) 378 [.ref a, .int (Int32.ofNat (c + 1))] m = some (.inl none, m) := n378_0 Z0 hc
    simp -implicitDefEqProofs (disch := omega) only [q373_0, t_n Z0, bd_s, a1, kV_r, n380 Z0, kI_r, bI0, Bool.true_eq_false, if_false, n385 (show v < 256 by omega), t_p Z0, nAdd, g1, ch8 hv, g2, q373_3]
  · show (if a = p then _ else if a = a then _ else _) = _
    rw [if_neg (fun q => z5 q.symm), if_pos rfl]
  · exact z0
  · exact z1
  · rfl
  · show (if p = p then _ else _) = _
    rw [if_pos rfl]
  · intro q h1 h2
    show (if q = p then _ else if q = a then _ else m.1 q) = _
    rw [if_neg h2, if_neg h1]
end
end

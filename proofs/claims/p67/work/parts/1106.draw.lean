/-! ===== draws from the cells ===== -/
noncomputable section
/-- the cells lie at l0 (N of them, f), the object that draws at b, a drawn so far -/
def DRW (b l0 N : Nat) (f : Nat → Int32) (a : Nat) (m : dMem) : Prop := ∃ F, m.1 b = some (.inr (11, F)) ∧ F 0 = .ref l0 ∧ F 1 = .int (Int32.ofNat a) ∧ m.1 l0 = some (.inl (0, N, .inl f)) ∧ l0 ≠ b ∧ N ≤ 1000
theorem and_n (y : Int32) : ∃ z, y &&& Int32.ofNat 2147483647 = Int32.ofNat z ∧ z < 2147483648 := by
  refine ⟨y.toBitVec.toNat % 2147483648, ?_, Nat.mod_lt _ (by omega)⟩
  apply Int32.toBitVec_inj.mp
  apply BitVec.eq_of_toNat_eq
  rw [Int32.toBitVec_and, BitVec.toNat_and]
  have h1 : (Int32.ofNat 2147483647).toBitVec.toNat = 2 ^ 31 - 1 := by decide +kernel
  have h2 : (Int32.ofNat (y.toBitVec.toNat % 2147483648)).toBitVec.toNat = y.toBitVec.toNat % 2147483648 := by
    show (BitVec.ofNat 32 (y.toBitVec.toNat % 2147483648)).toNat = _
    rw [BitVec.toNat_ofNat]
    exact Nat.mod_eq_of_lt (by have := Nat.mod_lt y.toBitVec.toNat (show 0 < 2147483648 by omega); omega)
  rw [h1, h2, Nat.and_two_pow_sub_one_eq_mod]
section
variable {e : dEnv} {d b l0 N a lo hi : Nat} {f : Nat → Int32} {m : dMem}
theorem DRW.fr {m2 : dMem} (Z : DRW b l0 N f a m) (h1 : m2.1 b = m.1 b) (h2 : m2.1 l0 = m.1 l0) : DRW b l0 N f a m2 := by
  obtain ⟨F, z1, z2, z3, z4, z5, z6⟩ := Z
  exact ⟨F, h1.trans z1, z2, z3, h2.trans z4, z5, z6⟩
theorem d_next (Z : DRW b l0 N f a m) (he : e.1 ≤ b) (ha : a < 1000000) (h1 : lo ≤ hi) (h2 : hi < 1000000) : ∃ v m', dN e (d + 1) 164 [.ref b, .int (Int32.ofNat lo), .int (Int32.ofNat hi)] m = rI (Int32.ofNat v) m' ∧ lo ≤ v ∧ v ≤ hi ∧ DRW b l0 N f (a + 1) m' ∧ (∀ q, q ≠ b → m'.1 q = m.1 q) ∧ m'.2 = m.2 := by
  obtain ⟨F, z1, z2, z3, z4, z5, z6⟩ := Z
  have hc : isC m b 11 = true := by unfold isC; rw [z1]; rfl
  have g0 : gR m b 11 0 = some l0 := by unfold gR; simp only [z1, if_true]; rw [z2]
  have g1 : gI m b 11 1 = some (Int32.ofNat a) := by unfold gI; simp only [z1, if_true]; rw [z3]
  have gn : aN m l0 = some (Int32.ofNat N) := by unfold aN; rw [z4]
  have gp : pI e m b 11 1 (Int32.ofNat (a + 1)) = some (dUp m b (.inr (11, fun j => if j = 1 then .int (Int32.ofNat (a + 1)) else F j))) := by
    unfold pI pV
    rw [z1]
    simp only
    rw [if_pos ⟨trivial, he⟩]
  have tail : ∀ (z u : Nat), z < 2147483648 → ∃ v, runL e (dN e d) 164 (u + 1) 2 [some (.ref b), some (.int (Int32.ofNat lo)), some (.int (Int32.ofNat hi)), none] [.int (Int32.ofNat z)] m = rI (Int32.ofNat v) (dUp m b (.inr (11, fun j => if j = 1 then .int (Int32.ofNat (a + 1)) else F j))) ∧ lo ≤ v ∧ v ≤ hi := by
    intro z u hz
    refine ⟨lo + z % (hi - lo + 1), ?_, by omega, by have := Nat.mod_lt z (show 0 < hi - lo + 1 by omega); omega⟩
    rw [q164_2, g1]
    simp only [bd_s]
    rw [nAdd, gp]
    simp only [bd_s]
    rw [nSub h1, nAdd, if_neg (by rw [nEq (by omega) (by omega)]; omega), nMod (by omega) (by omega), nAdd]
  have D' : DRW b l0 N f (a + 1) (dUp m b (.inr (11, fun j => if j = 1 then .int (Int32.ofNat (a + 1)) else F j))) := ⟨_, dUp_s, by show (if 0 = 1 then _ else F 0) = _; rw [if_neg (by omega), z2], if_pos rfl, by rw [dUp_n z5]; exact z4, z5, z6⟩
  by_cases q : a < N
  · obtain ⟨z, hz1, hz2⟩ := and_n (f a)
    have key := fun u => tail z u hz2
    obtain ⟨v, k1, k2, k3⟩ := key 0
    have k1 : ∀ u, runL e (dN e d) 164 (u + 1) 2 [some (.ref b), some (.int (Int32.ofNat lo)), some (.int (Int32.ofNat hi)), none] [.int (Int32.ofNat z)] m = rI (Int32.ofNat (lo + z % (hi - lo + 1))) (dUp m b (.inr (11, fun j => if j = 1 then .int (Int32.ofNat (a + 1)) else F j))) := by
      intro u
      rw [q164_2, g1]
      simp only [bd_s]
      rw [nAdd, gp]
      simp only [bd_s]
      rw [nSub h1, nAdd, if_neg (by rw [nEq (by omega) (by omega)]; omega), nMod (by omega) (by omega), nAdd]
    refine ⟨lo + z % (hi - lo + 1), _, ?_, by omega, by have := Nat.mod_lt z (show 0 < hi - lo + 1 by omega); omega, D', fun q hq => dUp_n hq, rfl⟩
    refine en164 hc fun t ht => ?_
    obtain ⟨u, rfl⟩ := fu 2 ht rfl
    have ga : aI m 0 l0 (Int32.ofNat a) = some (f a) := by
      unfold aI
      rw [z4]
      simp only
      rw [if_pos ⟨trivial, by rw [nToI (by omega)]; omega, by rw [nToI (by omega)]; omega⟩, nToN (by omega)]
    rw [q164_0, g1]
    simp only [bd_s]
    rw [g0]
    simp only [bd_s]
    rw [gn]
    simp only [bd_s]
    rw [if_pos (by rw [nLt (by omega) (by omega)]; exact q), ga]
    simp only [bd_s]
    rw [hz1, k1]
  · have k1 : ∀ u, runL e (dN e d) 164 (u + 1) 2 [some (.ref b), some (.int (Int32.ofNat lo)), some (.int (Int32.ofNat hi)), none] [.int (Int32.ofNat 0)] m = rI (Int32.ofNat (lo + 0 % (hi - lo + 1))) (dUp m b (.inr (11, fun j => if j = 1 then .int (Int32.ofNat (a + 1)) else F j))) := by
      intro u
      rw [q164_2, g1]
      simp only [bd_s]
      rw [nAdd, gp]
      simp only [bd_s]
      rw [nSub h1, nAdd, if_neg (by rw [nEq (by omega) (by omega)]; omega), nMod (by omega) (by omega), nAdd]
    refine ⟨lo + 0 % (hi - lo + 1), _, ?_, by omega, by have := Nat.mod_lt 0 (show 0 < hi - lo + 1 by omega); omega, D', fun q hq => dUp_n hq, rfl⟩
    refine en164 hc fun t ht => ?_
    obtain ⟨u, rfl⟩ := fu 3 ht rfl
    rw [q164_0, g1]
    simp only [bd_s]
    rw [g0]
    simp only [bd_s]
    rw [gn]
    simp only [bd_s]
    rw [if_neg (by rw [nLt (by omega) (by omega)]; exact q), q164_1, k1]
end
end

/-! ===== the text's array grows (printed by wip/whole/sb4.py) ===== -/
noncomputable section
section
variable {e : dEnv} {d a p L c : Nat} {w : Nat → Int32} {m : dMem}
theorem n381 {k : Nat} (h1 : L < k) (h2 : k ≤ L + (L + 2)) (h3 : L ≤ 10000) : dN e (d + 1) 381 [.int (Int32.ofNat L), .int (Int32.ofNat (k - L)), .int (Int32.ofNat (L + 2))] m = rI (Int32.ofNat (L + (L + 2))) m := by
  have q : mMax (Int32.ofNat (k - L)) (Int32.ofNat (L + 2)) = Int32.ofNat (L + 2) := by
    unfold mMax
    by_cases z : k - L < L + 2
    · rw [if_pos (by rw [nLt (by omega) (by omega)]; exact z)]
    · rw [if_neg (by rw [nLt (by omega) (by omega)]; exact z), show k - L = L + 2 by omega]
  refine en381 fun t ht => ?_
  obtain ⟨u, rfl⟩ := fu 9 ht rfl
  rw [q381_0, q, nAdd, if_pos (by rw [nLt (by omega) (by omega)]; omega), if_neg (by rw [nLt (by omega) (by omega)]; omega)]
theorem n379 (Z : hT a m p L c w) {k : Nat} (h1 : L < k) (h2 : k ≤ L + (L + 2)) (h3 : L ≤ 10000) : dN e (d + 2) 379 [.ref a, .int (Int32.ofNat k)] m = rI (Int32.ofNat (L + (L + 2))) m := by
  have q : ¬ Int32.ofNat (L + (L + 2)) = Int32.ofNat 2147483647 := by rw [nEq (by omega) (by omega)]; omega
  refine en379 (t_c Z) fun t ht => ?_
  obtain ⟨u, rfl⟩ := fu 9 ht rfl
  rw [q379_0, t_p Z]
  simp only [bd_s]
  rw [t_N Z]
  simp only [bd_s]
  rw [t_k Z]
  simp only [bd_s]
  rw [shl0, shl0, nSub (by omega), nAdd, n381 h1 h2 h3, kI_r, if_neg q, q379_1, t_k Z]
  simp only [bd_s]
  rw [sh0]
def cpM (m : dMem) (N L : Nat) (w : Nat → Int32) : dMem := dUp (nA m 3 N) m.2.1 (.inl (3, N, .inl (dCp w (fun _ => 0) 0 0 L)))
theorem n382 (Z : hT a m p L c w) {N : Nat} (h1 : L < N) (h2 : N ≤ 100000) (hp : p < m.2.1) (he : e.1 ≤ m.2.1) : dN e (d + 1) 382 [.ref p, .int (Int32.ofNat N)] m = some (.inl (some (.ref m.2.1)), cpM m N L w) := by
  have q : ¬ Int32.ofNat N = Int32.ofNat L := by rw [nEq (by omega) (by omega)]; omega
  have z4 : m.1 p = some (.inl (3, L, .inl w)) := by obtain ⟨F, -, -, -, -, z4, -⟩ := Z; exact z4
  have y4 : (nA m 3 N).1 p = some (.inl (3, L, .inl w)) := by
    show (if p = m.2.1 then _ else m.1 p) = _
    rw [if_neg (by omega), z4]
  have y5 : (nA m 3 N).1 m.2.1 = some (.inl (3, N, .inl fun _ => 0)) := by
    show (if m.2.1 = m.2.1 then _ else _) = _
    rw [if_pos rfl]
    rfl
  have qN : (Int32.ofNat N).toInt = (N : Int) := nToI (by omega)
  have qL : (Int32.ofNat L).toInt = (L : Int) := nToI (by omega)
  have q0 : (Int32.ofNat 0).toInt = ((0 : Nat) : Int) := nToI (by omega)
  have g1 : aN (nA m 3 N) p = some (Int32.ofNat L) := by
    unfold aN
    simp only [y4]
  have g2 : mMin (Int32.ofNat L) (Int32.ofNat N) = Int32.ofNat L := by
    unfold mMin
    rw [if_neg (by rw [nLt (by omega) (by omega)]; omega)]
  have g3 : aCp e (nA m 3 N) p (Int32.ofNat 0) m.2.1 (Int32.ofNat 0) (Int32.ofNat L) = some (cpM m N L w) := by
    unfold aCp
    simp only [y4, y5, q0, qL]
    rw [if_pos ⟨trivial, Or.inr trivial, he, by omega, by omega, by omega, by omega, by omega⟩]
    rfl
  refine en382 fun t ht => ?_
  obtain ⟨u, rfl⟩ := fu 9 ht rfl
  rw [q382_0, t_N Z]
  simp only [bd_s]
  rw [if_neg q, q382_1, qN, if_pos ⟨by omega, by omega⟩, Int.toNat_natCast]
  show ((aN (nA m 3 N) p).bind _) = _
  rw [g1]
  simp only [bd_s]
  rw [g2, g3]
  rfl
end
end

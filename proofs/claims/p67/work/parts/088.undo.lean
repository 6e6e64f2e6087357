/-! ===== the class's undo, slots, request, new box (printed by wip/whole/api7.py) ===== -/
noncomputable section
section
variable {e : dEnv} {d x Y n c : Nat} {R I H S : bX} {Ar : Nat → bX} {h s : sV} {m : dMem}
theorem n157_0 {k : Nat} (hk : k < 2) : dN e (d + 1) 157 [.int (Int32.ofNat k)] m = some (.inl none, m) := by
  refine en157 fun t ht => ?_
  obtain ⟨u, rfl⟩ := fu 9 ht rfl
  simp -implicitDefEqProofs (disch := omega) only [↓reduceIte, q157_0, q157_2, nLt, Nat.not_lt_zero, hk, if_true, if_false]
theorem n157_2 {y : Int32} (hx : rngB 0 1 y = false) : dN e (d + 1) 157 [.int y] m = dTh 2 m := by
  refine en157 fun t ht => ?_
  obtain ⟨u, rfl⟩ := fu 9 ht rfl
  by_cases q1 : y < Int32.ofNat 0
  · simp -implicitDefEqProofs only [↓reduceIte, q157_0, q157_1, q1]
  · have q2 : ¬ y < Int32.ofNat 2 := by
      rw [Int32.lt_iff_toInt_lt, nToI (by omega)] at q1 ⊢
      unfold rngB at hx
      rw [decide_eq_true (by omega), Bool.true_and] at hx
      have := of_decide_eq_false hx
      omega
    simp -implicitDefEqProofs only [↓reduceIte, q157_0, q157_1, q1, q2]
theorem b149 (Z : hSys x R I H S Ar m) (K : HisOK H n c) : dN e (d + 8) 149 [.ref x] m = rI (Int32.ofNat c) m := by
  have hR := Z.1
  have hH := Z.2.2.1
  have hc := K.2.2.1
  refine en149 (hR_c0 hR) fun t ht => ?_
  obtain ⟨u, rfl⟩ := fu 9 ht rfl
  rw [q149_0]; (try simp -implicitDefEqProofs (disch := omega) only [↓reduceIte, hR_c0 hR, hR_r0_0 hR, hR_r0_1 hR, hR_r0_2 hR, hR_r0_3 hR, hR_r0_4 hR, hR_r0_5 hR, hR_g0_6 hR, hH_c0 hH, hH_r0_0 hH, hH_g0_1 hH, hH_g0_2 hH, hH_q1_0 hH, hH_q1_1 hH, hH_q1_2 hH, hH_q1_3 hH, hH_q1_4 hH, hH_q1_5 hH, hH_q1_6 hH, hH_q1_7 hH, hc, bd_s, kI_r, kV_r, kL_r, rZ_1, rZ_0, rZ_b, rI_ite, bI_ite, ite_tf, ite_ft, bI0, bI1, bf_ite, nAdd, nMul, nLt, nEq, nEqM, nMEq, nMLt, nLtM, nMLt0, if_true, if_false, Nat.reduceAdd, Nat.reduceMul, Nat.zero_add, Nat.add_zero, decide_eq_true_eq, decide_true, decide_false, Nat.reduceEqDiff, Nat.reduceLT, Nat.reduceLeDiff, eq_self, Bool.false_eq_true, Bool.true_eq_false, Bool.not_eq_false', Bool.not_eq_true', ite_not, kV_th, kI_th, Nat.not_lt_zero])
theorem b148_1 (Z : hSys x R I H S Ar m) (K : HisOK H n 0) : dN e (d + 8) 148 [.ref x] m = dTh 1 m := by
  have hR := Z.1
  have hH := Z.2.2.1
  have hc := K.2.2.1
  refine en148 (hR_c0 hR) fun t ht => ?_
  obtain ⟨u, rfl⟩ := fu 9 ht rfl
  rw [q148_0]; (try simp -implicitDefEqProofs (disch := omega) only [↓reduceIte, hR_c0 hR, hR_r0_0 hR, hR_r0_1 hR, hR_r0_2 hR, hR_r0_3 hR, hR_r0_4 hR, hR_r0_5 hR, hR_g0_6 hR, hH_c0 hH, hH_r0_0 hH, hH_g0_1 hH, hH_g0_2 hH, hH_q1_0 hH, hH_q1_1 hH, hH_q1_2 hH, hH_q1_3 hH, hH_q1_4 hH, hH_q1_5 hH, hH_q1_6 hH, hH_q1_7 hH, hc, bd_s, kI_r, kV_r, kL_r, rZ_1, rZ_0, rZ_b, rI_ite, bI_ite, ite_tf, ite_ft, bI0, bI1, bf_ite, nAdd, nMul, nLt, nEq, nEqM, nMEq, nMLt, nLtM, nMLt0, if_true, if_false, Nat.reduceAdd, Nat.reduceMul, Nat.zero_add, Nat.add_zero, decide_eq_true_eq, decide_true, decide_false, Nat.reduceEqDiff, Nat.reduceLT, Nat.reduceLeDiff, eq_self, Bool.false_eq_true, Bool.true_eq_false, Bool.not_eq_false', Bool.not_eq_true', ite_not, kV_th, kI_th, Nat.not_lt_zero])
theorem b148_0 (Z : hSys x R I H S Ar m) (K : HisOK H n (c + 1)) (he : e.1 ≤ x) : ∃ m2 A', dN e (d + 8) 148 [.ref x] m = rI (Int32.ofNat c) m2 ∧ hSys x R I (takH H n c) S (seA Ar 0 A') m2 ∧ AEq A' (Ar (3 + (n + 7) % 8)) ∧ frm x m m2 := by
  obtain ⟨k1, k2, k3, k4⟩ := K
  have hp : (n + 7) % 8 < 8 := Nat.mod_lt _ (by omega)
  have hR := Z.1
  have hH := Z.2.2.1
  have e3 : x + 64 + (2 + 19 * ((n + 7) % 8)) = x + oA (3 + (n + 7) % 8) := by rw [oA_n hp]; omega
  have zA := Z.2.2.2.2 (3 + (n + 7) % 8) (by omega)
  have z0 : hB TA 19 (x + 26) (Ar 0) m := Z.2.2.2.2 0 (by omega)
  rw [← e3] at zA
  obtain ⟨A', g, q⟩ := y_tak (e := e) (d := d + 4) (a := x + 64) (a2 := x + 26) (m := m) hH k1 k2 k3 k4 zA z0 (by omega) (by omega) (by omega)
  have Z2 := sys_H (sys_A (sys_H Z (uA H 0 (wr (H.1 0) 1 (Int32.ofNat ((n + 7) % 8))))) (i := 0) (by omega) A') (takH H n c)
  have hR2 := Z2.1
  have hH2 := Z2.2.2.1
  have hc2 : (takH H n c).1 0 2 = Int32.ofNat c := by
    unfold takH
    rw [uA_s, wr_s]
  refine ⟨_, A', ?_, Z2, q, frm.tr (frm.tr (frm_H _) (frm_A (i := 0) (by omega) A')) (frm_H _)⟩
  have o0 : x + oA 0 = x + 26 := rfl
  rw [o0] at hR2 hH2 ⊢
  refine en148 (hR_c0 hR) fun t ht => ?_
  obtain ⟨u, rfl⟩ := fu 9 ht rfl
  rw [q148_0]; (try simp -implicitDefEqProofs (disch := omega) only [↓reduceIte, hR_c0 hR, hR_r0_0 hR, hR_r0_1 hR, hR_r0_2 hR, hR_r0_3 hR, hR_r0_4 hR, hR_r0_5 hR, hR_g0_6 hR, hH_c0 hH, hH_r0_0 hH, hH_g0_1 hH, hH_g0_2 hH, hH_q1_0 hH, hH_q1_1 hH, hH_q1_2 hH, hH_q1_3 hH, hH_q1_4 hH, hH_q1_5 hH, hH_q1_6 hH, hH_q1_7 hH, k3, g, hR_c0 hR2, hR_r0_0 hR2, hR_r0_1 hR2, hR_r0_2 hR2, hR_r0_3 hR2, hR_r0_4 hR2, hR_r0_5 hR2, hR_g0_6 hR2, hH_c0 hH2, hH_r0_0 hH2, hH_g0_1 hH2, hH_g0_2 hH2, hH_q1_0 hH2, hH_q1_1 hH2, hH_q1_2 hH2, hH_q1_3 hH2, hH_q1_4 hH2, hH_q1_5 hH2, hH_q1_6 hH2, hH_q1_7 hH2, hc2, Nat.succ_ne_zero, Nat.add_eq_zero_iff, Nat.one_ne_zero, and_false, bd_s, kI_r, kV_r, kL_r, rZ_1, rZ_0, rZ_b, rI_ite, bI_ite, ite_tf, ite_ft, bI0, bI1, bf_ite, nAdd, nMul, nLt, nEq, nEqM, nMEq, nMLt, nLtM, nMLt0, if_true, if_false, Nat.reduceAdd, Nat.reduceMul, Nat.zero_add, Nat.add_zero, decide_eq_true_eq, decide_true, decide_false, Nat.reduceEqDiff, Nat.reduceLT, Nat.reduceLeDiff, eq_self, Bool.false_eq_true, Bool.true_eq_false, Bool.not_eq_false', Bool.not_eq_true', ite_not, kV_th, kI_th, Nat.not_lt_zero]); rw [q148_1]; (try simp -implicitDefEqProofs (disch := omega) only [↓reduceIte, hR_c0 hR, hR_r0_0 hR, hR_r0_1 hR, hR_r0_2 hR, hR_r0_3 hR, hR_r0_4 hR, hR_r0_5 hR, hR_g0_6 hR, hH_c0 hH, hH_r0_0 hH, hH_g0_1 hH, hH_g0_2 hH, hH_q1_0 hH, hH_q1_1 hH, hH_q1_2 hH, hH_q1_3 hH, hH_q1_4 hH, hH_q1_5 hH, hH_q1_6 hH, hH_q1_7 hH, k3, g, hR_c0 hR2, hR_r0_0 hR2, hR_r0_1 hR2, hR_r0_2 hR2, hR_r0_3 hR2, hR_r0_4 hR2, hR_r0_5 hR2, hR_g0_6 hR2, hH_c0 hH2, hH_r0_0 hH2, hH_g0_1 hH2, hH_g0_2 hH2, hH_q1_0 hH2, hH_q1_1 hH2, hH_q1_2 hH2, hH_q1_3 hH2, hH_q1_4 hH2, hH_q1_5 hH2, hH_q1_6 hH2, hH_q1_7 hH2, hc2, Nat.succ_ne_zero, Nat.add_eq_zero_iff, Nat.one_ne_zero, and_false, bd_s, kI_r, kV_r, kL_r, rZ_1, rZ_0, rZ_b, rI_ite, bI_ite, ite_tf, ite_ft, bI0, bI1, bf_ite, nAdd, nMul, nLt, nEq, nEqM, nMEq, nMLt, nLtM, nMLt0, if_true, if_false, Nat.reduceAdd, Nat.reduceMul, Nat.zero_add, Nat.add_zero, decide_eq_true_eq, decide_true, decide_false, Nat.reduceEqDiff, Nat.reduceLT, Nat.reduceLeDiff, eq_self, Bool.false_eq_true, Bool.true_eq_false, Bool.not_eq_false', Bool.not_eq_true', ite_not, kV_th, kI_th, Nat.not_lt_zero])
end
end

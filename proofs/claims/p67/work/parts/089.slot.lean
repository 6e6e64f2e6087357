/-! ===== the class's slots, request, new box (printed by wip/whole/api8.py) ===== -/
noncomputable section
section
variable {e : dEnv} {d x Y n c : Nat} {R I H S : bX} {Ar : Nat → bX} {h s : sV} {m : dMem}
def savS (S : bX) (j : Nat) : bX := uA S 2 (wr (S.1 2) j (Int32.ofNat 1))
theorem b150_0 (Z : hSys x R I H S Ar m) (he : e.1 ≤ x) (hl : R.1 0 6 = Int32.ofNat 1) (W : OKA Y (Ar 0) h s) {j : Nat} (hj : j < 2) : ∃ m2 B', dN e (d + 8) 150 [.ref x, .int (Int32.ofNat j)] m = rI (s 0) m2 ∧ hSys x R I H (savS S j) (seA Ar (11 + j) B') m2 ∧ AEq B' (Ar 0) ∧ frm x m m2 := by
  have hR := Z.1
  have hS := Z.2.2.2.1
  have hA : hB TA 19 (x + 26) (Ar 0) m := Z.2.2.2.2 0 (by omega)
  have e3 : x + 218 + (3 + 19 * j) = x + oA (11 + j) := by rw [oA_s hj]; omega
  have zB := Z.2.2.2.2 (11 + j) (by omega)
  rw [← e3] at zB
  obtain ⟨B', g1, E⟩ := k_copyM (e := e) (d := d + 5) zB hA (by omega) (by omega)
  have Z1 := sys_A Z (i := 11 + j) (by omega) B'
  rw [← e3] at Z1
  have F1 := frm_A (x := x) (m := m) (i := 11 + j) (by omega) B'
  rw [← e3] at F1
  have hR1 := Z1.1
  have hS1 := Z1.2.2.2.1
  have c4 : cvI 4 (Int32.ofNat 1) = Int32.ofNat 1 := by decide +kernel
  have g2 := hS_s (e := e) (x := Int32.ofNat 1) hS1 (by omega) hj
  rw [c4] at g2
  have Z2 := sys_S Z1 (savS S j)
  have hR2 := Z2.1
  have o0 : x + oA 0 = x + 26 := rfl
  have hA2 := Z2.2.2.2.2 0 (by omega)
  rw [o0, seA_n (by omega)] at hA2
  refine ⟨_, B', ?_, Z2, E, frm.tr F1 (frm_S _)⟩
  unfold savS at hR2 hA2 ⊢
  have hq := z_q hS hj
  have hy := W.yr
  refine en150 (hR_c0 hR) fun t ht => ?_
  obtain ⟨u, rfl⟩ := fu 9 ht rfl
  rw [q150_0]; (try simp -implicitDefEqProofs (disch := omega) only [↓reduceIte, hR_c0 hR, hR_r0_0 hR, hR_r0_1 hR, hR_r0_2 hR, hR_r0_3 hR, hR_r0_4 hR, hR_r0_5 hR, hR_g0_6 hR, hR_c0 hR1, hR_r0_0 hR1, hR_r0_1 hR1, hR_r0_2 hR1, hR_r0_3 hR1, hR_r0_4 hR1, hR_r0_5 hR1, hR_g0_6 hR1, hR_c0 hR2, hR_r0_0 hR2, hR_r0_1 hR2, hR_r0_2 hR2, hR_r0_3 hR2, hR_r0_4 hR2, hR_r0_5 hR2, hR_g0_6 hR2, hS_c0 hS, hS_r0_0 hS, hS_r0_1 hS, hS_q1_0 hS, hS_q1_1 hS, hS_a2 hS, hS_n2 hS, hS_c0 hS1, hS_r0_0 hS1, hS_r0_1 hS1, hS_q1_0 hS1, hS_q1_1 hS1, hS_a2 hS1, hS_n2 hS1, hA_c0 hA2, hA_r0_0 hA2, hA_r0_1 hA2, hA_r0_2 hA2, hA_r0_3 hA2, hA_r0_4 hA2, hA_r0_5 hA2, hA_r0_6 hA2, hA_r0_7 hA2, hA_r0_8 hA2, hA_r0_9 hA2, hA_r0_10 hA2, hA_r0_11 hA2, hA_g0_12 hA2, hA_g0_13 hA2, hA_g0_14 hA2, hA_g0_15 hA2, hA_g0_16 hA2, hA_c1 hA2, hA_r1_0 hA2, hA_r1_1 hA2, hA_r1_2 hA2, hA_r1_3 hA2, hA_g1_4 hA2, hA_a2 hA2, hA_n2 hA2, hA_a3 hA2, hA_n3 hA2, hA_a4 hA2, hA_n4 hA2, hA_a5 hA2, hA_n5 hA2, hA_c6 hA2, hA_r6_0 hA2, hA_r6_1 hA2, hA_g6_2 hA2, hA_a7 hA2, hA_n7 hA2, hA_a8 hA2, hA_n8 hA2, hA_a9 hA2, hA_n9 hA2, hA_a10 hA2, hA_n10 hA2, hA_a11 hA2, hA_n11 hA2, hA_a12 hA2, hA_n12 hA2, hA_a13 hA2, hA_n13 hA2, hA_a14 hA2, hA_n14 hA2, hA_a15 hA2, hA_n15 hA2, hA_a16 hA2, hA_n16 hA2, hA_a17 hA2, hA_n17 hA2, hA_a18 hA2, hA_n18 hA2, hq, hy, n152_0 hR hA hl, n157_0 hj, g1, g2, bd_s, kI_r, kV_r, kL_r, rZ_1, rZ_0, rZ_b, rI_ite, bI_ite, ite_tf, ite_ft, bI0, bI1, bf_ite, nAdd, nMul, nLt, nEq, nEqM, nMEq, nMLt, nLtM, nMLt0, if_true, if_false, Nat.reduceAdd, Nat.reduceMul, Nat.zero_add, Nat.add_zero, decide_eq_true_eq, decide_true, decide_false, Nat.reduceEqDiff, Nat.reduceLT, Nat.reduceLeDiff, eq_self, Bool.false_eq_true, Bool.true_eq_false, Bool.not_eq_false', Bool.not_eq_true', ite_not, kV_th, kI_th, Nat.not_lt_zero])
theorem b151_2 (Z : hSys x R I H S Ar m) {y : Int32} (hx : rngB 0 1 y = false) : dN e (d + 8) 151 [.ref x, .int y] m = dTh 2 m := by
  have hR := Z.1
  have g := n157_2 (e := e) (d := d + 6) (m := m) hx
  refine en151 (hR_c0 hR) fun t ht => ?_
  obtain ⟨u, rfl⟩ := fu 9 ht rfl
  rw [q151_0]; (try simp -implicitDefEqProofs (disch := omega) only [↓reduceIte, g, bd_s, kI_r, kV_r, kL_r, rZ_1, rZ_0, rZ_b, rI_ite, bI_ite, ite_tf, ite_ft, bI0, bI1, bf_ite, nAdd, nMul, nLt, nEq, nEqM, nMEq, nMLt, nLtM, nMLt0, if_true, if_false, Nat.reduceAdd, Nat.reduceMul, Nat.zero_add, Nat.add_zero, decide_eq_true_eq, decide_true, decide_false, Nat.reduceEqDiff, Nat.reduceLT, Nat.reduceLeDiff, eq_self, Bool.false_eq_true, Bool.true_eq_false, Bool.not_eq_false', Bool.not_eq_true', ite_not, kV_th, kI_th, Nat.not_lt_zero])
theorem b151_1 (Z : hSys x R I H S Ar m) {j : Nat} (hj : j < 2) (hu : S.1 2 j = Int32.ofNat 0) : dN e (d + 8) 151 [.ref x, .int (Int32.ofNat j)] m = dTh 1 m := by
  have hR := Z.1
  have hS := Z.2.2.2.1
  refine en151 (hR_c0 hR) fun t ht => ?_
  obtain ⟨u, rfl⟩ := fu 9 ht rfl
  rw [q151_0]; (try simp -implicitDefEqProofs (disch := omega) only [↓reduceIte, hR_c0 hR, hR_r0_0 hR, hR_r0_1 hR, hR_r0_2 hR, hR_r0_3 hR, hR_r0_4 hR, hR_r0_5 hR, hR_g0_6 hR, hS_c0 hS, hS_r0_0 hS, hS_r0_1 hS, hS_q1_0 hS, hS_q1_1 hS, hS_a2 hS, hS_n2 hS, hu, n157_0 hj, bd_s, kI_r, kV_r, kL_r, rZ_1, rZ_0, rZ_b, rI_ite, bI_ite, ite_tf, ite_ft, bI0, bI1, bf_ite, nAdd, nMul, nLt, nEq, nEqM, nMEq, nMLt, nLtM, nMLt0, if_true, if_false, Nat.reduceAdd, Nat.reduceMul, Nat.zero_add, Nat.add_zero, decide_eq_true_eq, decide_true, decide_false, Nat.reduceEqDiff, Nat.reduceLT, Nat.reduceLeDiff, eq_self, Bool.false_eq_true, Bool.true_eq_false, Bool.not_eq_false', Bool.not_eq_true', ite_not, kV_th, kI_th, Nat.not_lt_zero])
theorem b151_0 (Z : hSys x R I H S Ar m) (he : e.1 ≤ x) {j : Nat} (hj : j < 2) (hu : S.1 2 j = Int32.ofNat 1) : ∃ m2 A', dN e (d + 8) 151 [.ref x, .int (Int32.ofNat j)] m = rI ((Ar (11 + j)).1 0 14) m2 ∧ hSys x R I (uA H 0 (wr (H.1 0) 2 (Int32.ofNat 0))) S (seA Ar 0 A') m2 ∧ AEq A' (Ar (11 + j)) ∧ frm x m m2 := by
  have hR := Z.1
  have hS := Z.2.2.2.1
  have hA : hB TA 19 (x + 26) (Ar 0) m := Z.2.2.2.2 0 (by omega)
  have e3 : x + 218 + (3 + 19 * j) = x + oA (11 + j) := by rw [oA_s hj]; omega
  have zB := Z.2.2.2.2 (11 + j) (by omega)
  rw [← e3] at zB
  obtain ⟨A', g1, E⟩ := k_copyM (e := e) (d := d + 5) hA zB (by omega) (by omega)
  have Z1 : hSys x R I H S (seA Ar 0 A') (ov TA 19 (x + 26) A' m) := sys_A Z (i := 0) (by omega) A'
  have F1 : frm x m (ov TA 19 (x + 26) A' m) := frm_A (i := 0) (by omega) A'
  have hR1 := Z1.1
  have hH1 := Z1.2.2.1
  have g2 := y_for (e := e) (d := d + 6) hH1 (by omega)
  have Z2 := sys_H Z1 (uA H 0 (wr (H.1 0) 2 (Int32.ofNat 0)))
  have hR2 := Z2.1
  have o0 : x + oA 0 = x + 26 := rfl
  have hA2 := Z2.2.2.2.2 0 (by omega)
  rw [o0, seA_s] at hA2
  refine ⟨_, A', ?_, Z2, E, frm.tr F1 (frm_H _)⟩
  have hq := z_q hS hj
  have hy : A'.1 0 14 = (Ar (11 + j)).1 0 14 := E.1 14 (by omega) (by omega)
  refine en151 (hR_c0 hR) fun t ht => ?_
  obtain ⟨u, rfl⟩ := fu 9 ht rfl
  rw [q151_0]; (try simp -implicitDefEqProofs (disch := omega) only [↓reduceIte, hR_c0 hR, hR_r0_0 hR, hR_r0_1 hR, hR_r0_2 hR, hR_r0_3 hR, hR_r0_4 hR, hR_r0_5 hR, hR_g0_6 hR, hR_c0 hR1, hR_r0_0 hR1, hR_r0_1 hR1, hR_r0_2 hR1, hR_r0_3 hR1, hR_r0_4 hR1, hR_r0_5 hR1, hR_g0_6 hR1, hR_c0 hR2, hR_r0_0 hR2, hR_r0_1 hR2, hR_r0_2 hR2, hR_r0_3 hR2, hR_r0_4 hR2, hR_r0_5 hR2, hR_g0_6 hR2, hS_c0 hS, hS_r0_0 hS, hS_r0_1 hS, hS_q1_0 hS, hS_q1_1 hS, hS_a2 hS, hS_n2 hS, hA_c0 hA2, hA_r0_0 hA2, hA_r0_1 hA2, hA_r0_2 hA2, hA_r0_3 hA2, hA_r0_4 hA2, hA_r0_5 hA2, hA_r0_6 hA2, hA_r0_7 hA2, hA_r0_8 hA2, hA_r0_9 hA2, hA_r0_10 hA2, hA_r0_11 hA2, hA_g0_12 hA2, hA_g0_13 hA2, hA_g0_14 hA2, hA_g0_15 hA2, hA_g0_16 hA2, hA_c1 hA2, hA_r1_0 hA2, hA_r1_1 hA2, hA_r1_2 hA2, hA_r1_3 hA2, hA_g1_4 hA2, hA_a2 hA2, hA_n2 hA2, hA_a3 hA2, hA_n3 hA2, hA_a4 hA2, hA_n4 hA2, hA_a5 hA2, hA_n5 hA2, hA_c6 hA2, hA_r6_0 hA2, hA_r6_1 hA2, hA_g6_2 hA2, hA_a7 hA2, hA_n7 hA2, hA_a8 hA2, hA_n8 hA2, hA_a9 hA2, hA_n9 hA2, hA_a10 hA2, hA_n10 hA2, hA_a11 hA2, hA_n11 hA2, hA_a12 hA2, hA_n12 hA2, hA_a13 hA2, hA_n13 hA2, hA_a14 hA2, hA_n14 hA2, hA_a15 hA2, hA_n15 hA2, hA_a16 hA2, hA_n16 hA2, hA_a17 hA2, hA_n17 hA2, hA_a18 hA2, hA_n18 hA2, hu, hq, hy, n157_0 hj, g1, g2, Nat.one_ne_zero, bd_s, kI_r, kV_r, kL_r, rZ_1, rZ_0, rZ_b, rI_ite, bI_ite, ite_tf, ite_ft, bI0, bI1, bf_ite, nAdd, nMul, nLt, nEq, nEqM, nMEq, nMLt, nLtM, nMLt0, if_true, if_false, Nat.reduceAdd, Nat.reduceMul, Nat.zero_add, Nat.add_zero, decide_eq_true_eq, decide_true, decide_false, Nat.reduceEqDiff, Nat.reduceLT, Nat.reduceLeDiff, eq_self, Bool.false_eq_true, Bool.true_eq_false, Bool.not_eq_false', Bool.not_eq_true', ite_not, kV_th, kI_th, Nat.not_lt_zero]); rw [q151_1]; (try simp -implicitDefEqProofs (disch := omega) only [↓reduceIte, hR_c0 hR, hR_r0_0 hR, hR_r0_1 hR, hR_r0_2 hR, hR_r0_3 hR, hR_r0_4 hR, hR_r0_5 hR, hR_g0_6 hR, hR_c0 hR1, hR_r0_0 hR1, hR_r0_1 hR1, hR_r0_2 hR1, hR_r0_3 hR1, hR_r0_4 hR1, hR_r0_5 hR1, hR_g0_6 hR1, hR_c0 hR2, hR_r0_0 hR2, hR_r0_1 hR2, hR_r0_2 hR2, hR_r0_3 hR2, hR_r0_4 hR2, hR_r0_5 hR2, hR_g0_6 hR2, hS_c0 hS, hS_r0_0 hS, hS_r0_1 hS, hS_q1_0 hS, hS_q1_1 hS, hS_a2 hS, hS_n2 hS, hA_c0 hA2, hA_r0_0 hA2, hA_r0_1 hA2, hA_r0_2 hA2, hA_r0_3 hA2, hA_r0_4 hA2, hA_r0_5 hA2, hA_r0_6 hA2, hA_r0_7 hA2, hA_r0_8 hA2, hA_r0_9 hA2, hA_r0_10 hA2, hA_r0_11 hA2, hA_g0_12 hA2, hA_g0_13 hA2, hA_g0_14 hA2, hA_g0_15 hA2, hA_g0_16 hA2, hA_c1 hA2, hA_r1_0 hA2, hA_r1_1 hA2, hA_r1_2 hA2, hA_r1_3 hA2, hA_g1_4 hA2, hA_a2 hA2, hA_n2 hA2, hA_a3 hA2, hA_n3 hA2, hA_a4 hA2, hA_n4 hA2, hA_a5 hA2, hA_n5 hA2, hA_c6 hA2, hA_r6_0 hA2, hA_r6_1 hA2, hA_g6_2 hA2, hA_a7 hA2, hA_n7 hA2, hA_a8 hA2, hA_n8 hA2, hA_a9 hA2, hA_n9 hA2, hA_a10 hA2, hA_n10 hA2, hA_a11 hA2, hA_n11 hA2, hA_a12 hA2, hA_n12 hA2, hA_a13 hA2, hA_n13 hA2, hA_a14 hA2, hA_n14 hA2, hA_a15 hA2, hA_n15 hA2, hA_a16 hA2, hA_n16 hA2, hA_a17 hA2, hA_n17 hA2, hA_a18 hA2, hA_n18 hA2, hu, hq, hy, n157_0 hj, g1, g2, Nat.one_ne_zero, bd_s, kI_r, kV_r, kL_r, rZ_1, rZ_0, rZ_b, rI_ite, bI_ite, ite_tf, ite_ft, bI0, bI1, bf_ite, nAdd, nMul, nLt, nEq, nEqM, nMEq, nMLt, nLtM, nMLt0, if_true, if_false, Nat.reduceAdd, Nat.reduceMul, Nat.zero_add, Nat.add_zero, decide_eq_true_eq, decide_true, decide_false, Nat.reduceEqDiff, Nat.reduceLT, Nat.reduceLeDiff, eq_self, Bool.false_eq_true, Bool.true_eq_false, Bool.not_eq_false', Bool.not_eq_true', ite_not, kV_th, kI_th, Nat.not_lt_zero])
end
end

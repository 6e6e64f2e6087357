/-! ===== history and slots (printed by wip/whole/api3.py) ===== -/
noncomputable section
theorem mMin_n {a b : Nat} (ha : a < 2147483648) (hb : b < 2147483648) : mMin (Int32.ofNat a) (Int32.ofNat b) = Int32.ofNat (min a b) := by
  unfold mMin
  have e1 := nLt hb ha
  by_cases q : b < a
  · rw [if_pos (by rw [e1]; exact q), Nat.min_eq_right (by omega)]
  · rw [if_neg (by rw [e1]; exact q), Nat.min_eq_left (by omega)]
theorem y_q {a j : Nat} {H : bX} {m : dMem} (Z : hB TH 2 a H m) (hj : j < 8) : aR m 5 (a + 1) (Int32.ofNat j) = some (a + (2 + 19 * j)) := by
  have : j = 0 ∨ j = 1 ∨ j = 2 ∨ j = 3 ∨ j = 4 ∨ j = 5 ∨ j = 6 ∨ j = 7 := by omega
  rcases this with z | z | z | z | z | z | z | z <;> subst z
  · exact hH_q1_0 Z
  · exact hH_q1_1 Z
  · exact hH_q1_2 Z
  · exact hH_q1_3 Z
  · exact hH_q1_4 Z
  · exact hH_q1_5 Z
  · exact hH_q1_6 Z
  · exact hH_q1_7 Z
theorem z_q {a j : Nat} {X : bX} {m : dMem} (Z : hB TS 3 a X m) (hj : j < 2) : aR m 5 (a + 1) (Int32.ofNat j) = some (a + (3 + 19 * j)) := by
  have : j = 0 ∨ j = 1 := by omega
  rcases this with z | z <;> subst z
  · exact hS_q1_0 Z
  · exact hS_q1_1 Z
section
variable {e : dEnv} {d a a2 : Nat} {A B H X : bX} {m : dMem}
theorem hH_p1 {x : Int32} (Z : hB TH 2 a H m) (he : e.1 ≤ a) : pI e m a 3 1 x = some (ov TH 2 a (uA H 0 (wr (H.1 0) 1 x)) m) := by
  have := H_p0_1 (a := a) (X := H) (m := m) (x := x) he
  rwa [ov_self Z] at this
theorem hH_p2 {x : Int32} (Z : hB TH 2 a H m) (he : e.1 ≤ a) : pI e m a 3 2 x = some (ov TH 2 a (uA H 0 (wr (H.1 0) 2 x)) m) := by
  have := H_p0_2 (a := a) (X := H) (m := m) (x := x) he
  rwa [ov_self Z] at this
theorem hS_s {k : Nat} {x : Int32} (Z : hB TS 3 a X m) (he : e.1 ≤ a) (hk : k < 2) : sI e m 4 (a + 2) (Int32.ofNat k) x = some (ov TS 3 a (uA X 2 (wr (X.1 2) k (cvI 4 x))) m) := by
  have := S_s2 (a := a) (X := X) (m := m) (x := x) he hk
  rwa [ov_self Z] at this
theorem k_copyM (hS : hB TA 19 a B m) (hA : hB TA 19 a2 A m) (hd : a2 + 19 ≤ a ∨ a + 19 ≤ a2) (he : e.1 ≤ a) : ∃ B', dN e (d + 2) 2 [.ref a, .ref a2] m = some (.inl none, ov TA 19 a B' m) ∧ AEq B' A := by
  obtain ⟨B', g, q⟩ := k_copy (e := e) (d := d) (A := B) (m := m) hA hd he
  rw [ov_self hS] at g
  exact ⟨B', g, q⟩
def remH (H : bX) (n c : Nat) : bX := uA H 0 (wr (wr (H.1 0) 1 (Int32.ofNat ((n + 1) % 8))) 2 (Int32.ofNat (min (c + 1) 8)))
/-- a state is remembered -/
theorem y_rem {n c : Nat} (hH : hB TH 2 a H m) (hn : H.1 0 1 = Int32.ofNat n) (hn8 : n < 8) (hc : H.1 0 2 = Int32.ofNat c) (hc8 : c ≤ 8) (hS : hB TA 19 (a + (2 + 19 * n)) B m) (hA : hB TA 19 a2 A m) (hd : a2 + 19 ≤ a ∨ a + 154 ≤ a2) (he : e.1 ≤ a) : ∃ B', dN e (d + 3) 44 [.ref a, .ref a2] m = some (.inl none, ov TH 2 a (remH H n c) (ov TA 19 (a + (2 + 19 * n)) B' m)) ∧ AEq B' A := by
  obtain ⟨B', g, q⟩ := k_copyM (e := e) (d := d) (B := B) (m := m) hS hA (by omega) (by omega)
  refine ⟨B', ?_, q⟩
  have h4 : hB TH 2 a H (ov TA 19 (a + (2 + 19 * n)) B' m) := hB_other hH (by omega)
  unfold remH
  refine en44 (hH_c0 hH) fun t ht => ?_
  obtain ⟨u, rfl⟩ := fu 9 ht rfl
  simp -implicitDefEqProofs (disch := omega) only [↓reduceIte, q44_0, hH_r0_0 hH, hH_g0_1 hH, hn, y_q hH, g, hH_g0_1 h4, nMod, hH_p1 h4 he, H_g0_2, hc, H_p0_2 he, mMin_n, ov_ov, bd_s, kI_r, kV_r, kL_r, rZ_1, rZ_0, rZ_b, rI_ite, bI_ite, ite_tf, ite_ft, bI0, bI1, bf_ite, nAdd, nMul, nLt, nEq, nEqM, nMEq, nMLt, nLtM, nMLt0, if_true, if_false, Nat.reduceAdd, Nat.reduceMul, Nat.zero_add, Nat.add_zero, decide_eq_true_eq, decide_true, decide_false, Nat.reduceEqDiff, Nat.reduceLT, Nat.reduceLeDiff, eq_self, Bool.false_eq_true, Bool.true_eq_false, Bool.not_eq_false', Bool.not_eq_true', ite_not, kV_th, kI_th, Nat.not_lt_zero, uA_s, uA_n, uA_uA, wr_s, wr_n]
def takH (H : bX) (n c : Nat) : bX := uA H 0 (wr (wr (H.1 0) 1 (Int32.ofNat ((n + 7) % 8))) 2 (Int32.ofNat c))
/-- the last change is taken back -/
theorem y_tak {n c : Nat} (hH : hB TH 2 a H m) (hn : H.1 0 1 = Int32.ofNat n) (hn8 : n < 8) (hc : H.1 0 2 = Int32.ofNat (c + 1)) (hc8 : c + 1 ≤ 8) (hS : hB TA 19 (a + (2 + 19 * ((n + 7) % 8))) B m) (hA : hB TA 19 a2 A m) (hd : a2 + 19 ≤ a ∨ a + 154 ≤ a2) (he : e.1 ≤ a) (he2 : e.1 ≤ a2) : ∃ A', dN e (d + 3) 45 [.ref a, .ref a2] m = some (.inl none, ov TH 2 a (takH H n c) (ov TA 19 a2 A' (ov TH 2 a (uA H 0 (wr (H.1 0) 1 (Int32.ofNat ((n + 7) % 8)))) m))) ∧ AEq A' B := by
  have hm : (n + 7) % 8 < 8 := Nat.mod_lt _ (by omega)
  have hm2 : hB TH 2 a (uA H 0 (wr (H.1 0) 1 (Int32.ofNat ((n + 7) % 8)))) (ov TH 2 a (uA H 0 (wr (H.1 0) 1 (Int32.ofNat ((n + 7) % 8)))) m) := hB_ov
  have hq := y_q hm2 hm
  obtain ⟨A', g, q⟩ := k_copyM (e := e) (d := d) (a := a2) (a2 := a + (2 + 19 * ((n + 7) % 8))) (m := ov TH 2 a (uA H 0 (wr (H.1 0) 1 (Int32.ofNat ((n + 7) % 8)))) m) (hB_other hA (by omega)) (hB_other hS (by omega)) (by omega) he2
  refine ⟨A', ?_, q⟩
  have h4 : hB TH 2 a (uA H 0 (wr (H.1 0) 1 (Int32.ofNat ((n + 7) % 8)))) (ov TA 19 a2 A' (ov TH 2 a (uA H 0 (wr (H.1 0) 1 (Int32.ofNat ((n + 7) % 8)))) m)) := hB_other hm2 (by omega)
  have e7 : n + 8 - 1 = n + 7 := by omega
  unfold takH
  refine en45 (hH_c0 hH) fun t ht => ?_
  obtain ⟨u, rfl⟩ := fu 9 ht rfl
  simp -implicitDefEqProofs (disch := omega) only [↓reduceIte, q45_0, hH_g0_1 hH, hn, nSub, e7, nMod, hH_p1 hH he, H_r0_0, H_g0_1, hq, g, hH_g0_2 h4, hc, Nat.add_sub_cancel, hH_p2 h4 he, bd_s, kI_r, kV_r, kL_r, rZ_1, rZ_0, rZ_b, rI_ite, bI_ite, ite_tf, ite_ft, bI0, bI1, bf_ite, nAdd, nMul, nLt, nEq, nEqM, nMEq, nMLt, nLtM, nMLt0, if_true, if_false, Nat.reduceAdd, Nat.reduceMul, Nat.zero_add, Nat.add_zero, decide_eq_true_eq, decide_true, decide_false, Nat.reduceEqDiff, Nat.reduceLT, Nat.reduceLeDiff, eq_self, Bool.false_eq_true, Bool.true_eq_false, Bool.not_eq_false', Bool.not_eq_true', ite_not, kV_th, kI_th, Nat.not_lt_zero, uA_s, uA_n, uA_uA, wr_s, wr_n]
theorem y_for (hH : hB TH 2 a H m) (he : e.1 ≤ a) : dN e (d + 1) 46 [.ref a] m = some (.inl none, ov TH 2 a (uA H 0 (wr (H.1 0) 2 (Int32.ofNat 0))) m) := by
  refine en46 (hH_c0 hH) fun t ht => ?_
  obtain ⟨u, rfl⟩ := fu 9 ht rfl
  simp -implicitDefEqProofs (disch := omega) only [↓reduceIte, q46_0, hH_p2 hH he, bd_s, kI_r, kV_r, kL_r, rZ_1, rZ_0, rZ_b, rI_ite, bI_ite, ite_tf, ite_ft, bI0, bI1, bf_ite, nAdd, nMul, nLt, nEq, nEqM, nMEq, nMLt, nLtM, nMLt0, if_true, if_false, Nat.reduceAdd, Nat.reduceMul, Nat.zero_add, Nat.add_zero, decide_eq_true_eq, decide_true, decide_false, Nat.reduceEqDiff, Nat.reduceLT, Nat.reduceLeDiff, eq_self, Bool.false_eq_true, Bool.true_eq_false, Bool.not_eq_false', Bool.not_eq_true', ite_not, kV_th, kI_th, Nat.not_lt_zero, uA_s, uA_n, uA_uA, wr_s, wr_n]
theorem z_for (hS : hB TS 3 a X m) (he : e.1 ≤ a) : dN e (d + 1) 86 [.ref a] m = some (.inl none, ov TS 3 a (uA X 2 (wr (wr (X.1 2) 0 (Int32.ofNat 0)) 1 (Int32.ofNat 0))) m) := by
  have c4 : cvI 4 (Int32.ofNat 0) = Int32.ofNat 0 := by decide +kernel
  refine en86 (hS_c0 hS) fun t ht => ?_
  obtain ⟨u, rfl⟩ := fu 9 ht rfl
  rw [q86_0]; (try simp -implicitDefEqProofs (disch := omega) only [↓reduceIte, hS_r0_1 hS, hS_s hS he, c4, bd_s, kI_r, kV_r, kL_r, rZ_1, rZ_0, rZ_b, rI_ite, bI_ite, ite_tf, ite_ft, bI0, bI1, bf_ite, nAdd, nMul, nLt, nEq, nEqM, nMEq, nMLt, nLtM, nMLt0, if_true, if_false, Nat.reduceAdd, Nat.reduceMul, Nat.zero_add, Nat.add_zero, decide_eq_true_eq, decide_true, decide_false, Nat.reduceEqDiff, Nat.reduceLT, Nat.reduceLeDiff, eq_self, Bool.false_eq_true, Bool.true_eq_false, Bool.not_eq_false', Bool.not_eq_true', ite_not, kV_th, kI_th, Nat.not_lt_zero, uA_s, uA_n, uA_uA, wr_s, wr_n]); rw [q86_1]; (try simp -implicitDefEqProofs (disch := omega) only [↓reduceIte, hS_r0_1 hS, hS_s hS he, c4, bd_s, kI_r, kV_r, kL_r, rZ_1, rZ_0, rZ_b, rI_ite, bI_ite, ite_tf, ite_ft, bI0, bI1, bf_ite, nAdd, nMul, nLt, nEq, nEqM, nMEq, nMLt, nLtM, nMLt0, if_true, if_false, Nat.reduceAdd, Nat.reduceMul, Nat.zero_add, Nat.add_zero, decide_eq_true_eq, decide_true, decide_false, Nat.reduceEqDiff, Nat.reduceLT, Nat.reduceLeDiff, eq_self, Bool.false_eq_true, Bool.true_eq_false, Bool.not_eq_false', Bool.not_eq_true', ite_not, kV_th, kI_th, Nat.not_lt_zero, uA_s, uA_n, uA_uA, wr_s, wr_n]); rw [q86_1]; (try simp -implicitDefEqProofs (disch := omega) only [↓reduceIte, S_r0_1, S_s2 he, c4, uA_s, uA_uA, bd_s, kI_r, kV_r, kL_r, rZ_1, rZ_0, rZ_b, rI_ite, bI_ite, ite_tf, ite_ft, bI0, bI1, bf_ite, nAdd, nMul, nLt, nEq, nEqM, nMEq, nMLt, nLtM, nMLt0, if_true, if_false, Nat.reduceAdd, Nat.reduceMul, Nat.zero_add, Nat.add_zero, decide_eq_true_eq, decide_true, decide_false, Nat.reduceEqDiff, Nat.reduceLT, Nat.reduceLeDiff, eq_self, Bool.false_eq_true, Bool.true_eq_false, Bool.not_eq_false', Bool.not_eq_true', ite_not, kV_th, kI_th, Nat.not_lt_zero, uA_s, uA_n, uA_uA, wr_s, wr_n]); rw [q86_1]; (try simp -implicitDefEqProofs (disch := omega) only [↓reduceIte, S_r0_1, S_s2 he, c4, uA_s, uA_uA, bd_s, kI_r, kV_r, kL_r, rZ_1, rZ_0, rZ_b, rI_ite, bI_ite, ite_tf, ite_ft, bI0, bI1, bf_ite, nAdd, nMul, nLt, nEq, nEqM, nMEq, nMLt, nLtM, nMLt0, if_true, if_false, Nat.reduceAdd, Nat.reduceMul, Nat.zero_add, Nat.add_zero, decide_eq_true_eq, decide_true, decide_false, Nat.reduceEqDiff, Nat.reduceLT, Nat.reduceLeDiff, eq_self, Bool.false_eq_true, Bool.true_eq_false, Bool.not_eq_false', Bool.not_eq_true', ite_not, kV_th, kI_th, Nat.not_lt_zero, uA_s, uA_n, uA_uA, wr_s, wr_n]); rw [q86_2]; (try simp -implicitDefEqProofs (disch := omega) only [↓reduceIte, S_r0_1, S_s2 he, c4, uA_s, uA_uA, bd_s, kI_r, kV_r, kL_r, rZ_1, rZ_0, rZ_b, rI_ite, bI_ite, ite_tf, ite_ft, bI0, bI1, bf_ite, nAdd, nMul, nLt, nEq, nEqM, nMEq, nMLt, nLtM, nMLt0, if_true, if_false, Nat.reduceAdd, Nat.reduceMul, Nat.zero_add, Nat.add_zero, decide_eq_true_eq, decide_true, decide_false, Nat.reduceEqDiff, Nat.reduceLT, Nat.reduceLeDiff, eq_self, Bool.false_eq_true, Bool.true_eq_false, Bool.not_eq_false', Bool.not_eq_true', ite_not, kV_th, kI_th, Nat.not_lt_zero, uA_s, uA_n, uA_uA, wr_s, wr_n])
end
end

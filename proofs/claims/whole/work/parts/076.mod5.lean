/-! ===== the reference's calls: letters, places, copies, what is kept (printed by wip/whole/mod5.py) ===== -/
noncomputable section
def letS (h : sV) (p : Nat) (x : Int32) : Int32 := bif rngB 0 5 x then (if h (p + nN x) = Int32.ofNat 0 then nM1 else h (p + nN x)) else nM1
theorem dCp_0 {α : Type} (f g : Nat → α) (sp dp : Nat) : dCp f g sp dp 0 = g := by
  funext j
  unfold dCp
  rw [if_neg (by omega)]
theorem dCp_s (f g : sV) (sp dp k : Nat) : wr (dCp f g sp dp k) (dp + k) (f (sp + k)) = dCp f g sp dp (k + 1) := by
  funext j
  unfold dCp
  by_cases q : j = dp + k
  · rw [q, wr_s, if_pos (by omega)]
    congr 1
    omega
  · rw [wr_n q]
    by_cases q2 : dp ≤ j ∧ j < dp + k
    · rw [if_pos q2, if_pos (by omega)]
    · rw [if_neg q2, if_neg (by omega)]
section
variable {e : dEnv} {d b : Nat} {M : bX} {m : dMem}
theorem c_let {p : Nat} {x : Int32} (hp : p ≤ 112) : dN e (d + 2) 248 [.ref b, .int (Int32.ofNat p), .int x] (ov TM 8 b M m) = rI (letS (M.1 1) p x) (ov TM 8 b M m) := by
  have h9 : dN e (d + 1) 165 [.long x.toInt64, .long 0, .long 5] (ov TM 8 b M m) = rI (bI (rngB 0 5 x)) (ov TM 8 b M m) := c_rng
  unfold letS
  cases hr : rngB 0 5 x with
  | false =>
    rw [hr] at h9
    refine en248 M_c0 fun t ht => ?_
    obtain ⟨u, rfl⟩ := fu 9 ht rfl
    simp -implicitDefEqProofs (disch := omega) only [↓reduceIte, q248_0, q248_1, q248_2, q248_3, q248_4, h9, bd_s, kI_r, kV_r, kL_r, rZ_1, rZ_0, rZ_b, rI_ite, bI_ite, ite_tf, ite_ft, bI0, bI1, bf_ite, nAdd, nMul, nLt, nEq, nEqM, nMEq, nMLt, nLtM, nMLt0, if_true, if_false, Nat.reduceAdd, Nat.reduceMul, Nat.zero_add, Nat.add_zero, decide_eq_true_eq, decide_true, decide_false, Nat.reduceEqDiff, Nat.reduceLT, Nat.reduceLeDiff, eq_self, Bool.false_eq_true, Bool.true_eq_false, Bool.not_eq_false', Bool.not_eq_true', ite_not, uA_s, uA_n, uA_uA, M_r0_2, M_r0_3, M_a1, M_a2, M_g0_0, M_g0_1, M_a3, M_a4, M_r0_4, M_r0_6, M_g0_5, mT_n, mT_00, mT_0k, mT_up, mT_mk, mT_mT, dnf, Bool.not_false, Bool.not_true]
    rfl
  | true =>
    rw [hr] at h9
    obtain ⟨k, hk, rfl⟩ := rng_t (n := 6) hr
    rw [nN_o (by omega)]
    refine en248 M_c0 fun t ht => ?_
    obtain ⟨u, rfl⟩ := fu 9 ht rfl
    simp -implicitDefEqProofs (disch := omega) only [↓reduceIte, q248_0, q248_1, q248_2, q248_3, q248_4, h9, bd_s, kI_r, kV_r, kL_r, rZ_1, rZ_0, rZ_b, rI_ite, bI_ite, ite_tf, ite_ft, bI0, bI1, bf_ite, nAdd, nMul, nLt, nEq, nEqM, nMEq, nMLt, nLtM, nMLt0, if_true, if_false, Nat.reduceAdd, Nat.reduceMul, Nat.zero_add, Nat.add_zero, decide_eq_true_eq, decide_true, decide_false, Nat.reduceEqDiff, Nat.reduceLT, Nat.reduceLeDiff, eq_self, Bool.false_eq_true, Bool.true_eq_false, Bool.not_eq_false', Bool.not_eq_true', ite_not, uA_s, uA_n, uA_uA, M_r0_2, M_r0_3, M_a1, M_a2, M_g0_0, M_g0_1, M_a3, M_a4, M_r0_4, M_r0_6, M_g0_5, mT_n, mT_00, mT_0k, mT_up, mT_mk, mT_mT, dnf, Bool.not_false, Bool.not_true]
    rfl
theorem m249_1 {x : Int32} {y : Int32} (he : e.1 ≤ b) (hl : M.1 0 1 = Int32.ofNat 0) : dN e (d + 4) 249 [.ref b, .int x, .int y] (ov TM 8 b M m) = rI (Int32.ofNat 0) (ov TM 8 b (mT M 1) m) := by
  refine en249 M_c0 fun t ht => ?_
  obtain ⟨u, rfl⟩ := fu 12 ht rfl
  simp -implicitDefEqProofs (disch := omega) only [↓reduceIte, q249_0, q249_1, q249_2, c_cl1 he hl, bI_f, bd_s, kI_r, kV_r, kL_r, rZ_1, rZ_0, rZ_b, rI_ite, bI_ite, ite_tf, ite_ft, bI0, bI1, bf_ite, nAdd, nMul, nLt, nEq, nEqM, nMEq, nMLt, nLtM, nMLt0, if_true, if_false, Nat.reduceAdd, Nat.reduceMul, Nat.zero_add, Nat.add_zero, decide_eq_true_eq, decide_true, decide_false, Nat.reduceEqDiff, Nat.reduceLT, Nat.reduceLeDiff, eq_self, Bool.false_eq_true, Bool.true_eq_false, Bool.not_eq_false', Bool.not_eq_true', ite_not, uA_s, uA_n, uA_uA, M_r0_2, M_r0_3, M_a1, M_a2, M_g0_0, M_g0_1, mT_n, mT_00, mT_0k, mT_up, mT_mk, mT_mT, dnf, Bool.not_false, Bool.not_true]
theorem m249_2 {x : Int32} {n : Nat} {y : Int32} (he : e.1 ≤ b) (hl : M.1 0 1 = Int32.ofNat 1) (hn : M.1 1 2 = Int32.ofNat n) (hm : n ≤ 8) (hx : rngB 0 ((n : Int) - 1) x = false) : dN e (d + 4) 249 [.ref b, .int x, .int y] (ov TM 8 b M m) = rI (Int32.ofNat 0) (ov TM 8 b (mT M 2) m) := by
  refine en249 M_c0 fun t ht => ?_
  obtain ⟨u, rfl⟩ := fu 12 ht rfl
  simp -implicitDefEqProofs (disch := omega) only [↓reduceIte, q249_0, q249_1, q249_2, c_cl2 he hl hn hm hx, bI_f, bd_s, kI_r, kV_r, kL_r, rZ_1, rZ_0, rZ_b, rI_ite, bI_ite, ite_tf, ite_ft, bI0, bI1, bf_ite, nAdd, nMul, nLt, nEq, nEqM, nMEq, nMLt, nLtM, nMLt0, if_true, if_false, Nat.reduceAdd, Nat.reduceMul, Nat.zero_add, Nat.add_zero, decide_eq_true_eq, decide_true, decide_false, Nat.reduceEqDiff, Nat.reduceLT, Nat.reduceLeDiff, eq_self, Bool.false_eq_true, Bool.true_eq_false, Bool.not_eq_false', Bool.not_eq_true', ite_not, uA_s, uA_n, uA_uA, M_r0_2, M_r0_3, M_a1, M_a2, M_g0_0, M_g0_1, mT_n, mT_00, mT_0k, mT_up, mT_mk, mT_mT, dnf, Bool.not_false, Bool.not_true]
theorem m249_0 {n k : Nat} {y : Int32} (he : e.1 ≤ b) (hl : M.1 0 1 = Int32.ofNat 1) (hn : M.1 1 2 = Int32.ofNat n) (hm : n ≤ 8) (hk : k < n) : dN e (d + 4) 249 [.ref b, .int (Int32.ofNat k), .int y] (ov TM 8 b M m) = rI (letS (M.1 1) (46 + 6 * k) y) (ov TM 8 b (mT M 0) m) := by
  refine en249 M_c0 fun t ht => ?_
  obtain ⟨u, rfl⟩ := fu 12 ht rfl
  simp -implicitDefEqProofs (disch := omega) only [↓reduceIte, q249_0, q249_1, q249_2, c_cl0 he hl hn hm hk, c_let (M := mT M 0) (show 46 + 6 * k ≤ 112 by omega), bd_s, kI_r, kV_r, kL_r, rZ_1, rZ_0, rZ_b, rI_ite, bI_ite, ite_tf, ite_ft, bI0, bI1, bf_ite, nAdd, nMul, nLt, nEq, nEqM, nMEq, nMLt, nLtM, nMLt0, if_true, if_false, Nat.reduceAdd, Nat.reduceMul, Nat.zero_add, Nat.add_zero, decide_eq_true_eq, decide_true, decide_false, Nat.reduceEqDiff, Nat.reduceLT, Nat.reduceLeDiff, eq_self, Bool.false_eq_true, Bool.true_eq_false, Bool.not_eq_false', Bool.not_eq_true', ite_not, uA_s, uA_n, uA_uA, M_r0_2, M_r0_3, M_a1, M_a2, M_g0_0, M_g0_1, mT_n, mT_00, mT_0k, mT_up, mT_mk, mT_mT, dnf, Bool.not_false, Bool.not_true]
theorem m269_1 {x : Int32} {y : Int32} (he : e.1 ≤ b) (hl : M.1 0 1 = Int32.ofNat 0) : dN e (d + 4) 269 [.ref b, .int x, .int y] (ov TM 8 b M m) = rI (Int32.ofNat 0) (ov TM 8 b (mT M 1) m) := by
  refine en269 M_c0 fun t ht => ?_
  obtain ⟨u, rfl⟩ := fu 12 ht rfl
  simp -implicitDefEqProofs (disch := omega) only [↓reduceIte, q269_0, q269_1, q269_2, c_rd1 he hl, bI_f, bd_s, kI_r, kV_r, kL_r, rZ_1, rZ_0, rZ_b, rI_ite, bI_ite, ite_tf, ite_ft, bI0, bI1, bf_ite, nAdd, nMul, nLt, nEq, nEqM, nMEq, nMLt, nLtM, nMLt0, if_true, if_false, Nat.reduceAdd, Nat.reduceMul, Nat.zero_add, Nat.add_zero, decide_eq_true_eq, decide_true, decide_false, Nat.reduceEqDiff, Nat.reduceLT, Nat.reduceLeDiff, eq_self, Bool.false_eq_true, Bool.true_eq_false, Bool.not_eq_false', Bool.not_eq_true', ite_not, uA_s, uA_n, uA_uA, M_r0_2, M_r0_3, M_a1, M_a2, M_g0_0, M_g0_1, mT_n, mT_00, mT_0k, mT_up, mT_mk, mT_mT, dnf, Bool.not_false, Bool.not_true]
theorem m269_2 {x : Int32} {n : Nat} {y : Int32} (he : e.1 ≤ b) (hl : M.1 0 1 = Int32.ofNat 1) (hn : M.1 1 3 = Int32.ofNat n) (hm : n ≤ 6) (hx : rngB 0 ((n : Int) - 1) x = false) : dN e (d + 4) 269 [.ref b, .int x, .int y] (ov TM 8 b M m) = rI (Int32.ofNat 0) (ov TM 8 b (mT M 2) m) := by
  refine en269 M_c0 fun t ht => ?_
  obtain ⟨u, rfl⟩ := fu 12 ht rfl
  simp -implicitDefEqProofs (disch := omega) only [↓reduceIte, q269_0, q269_1, q269_2, c_rd2 he hl hn hm hx, bI_f, bd_s, kI_r, kV_r, kL_r, rZ_1, rZ_0, rZ_b, rI_ite, bI_ite, ite_tf, ite_ft, bI0, bI1, bf_ite, nAdd, nMul, nLt, nEq, nEqM, nMEq, nMLt, nLtM, nMLt0, if_true, if_false, Nat.reduceAdd, Nat.reduceMul, Nat.zero_add, Nat.add_zero, decide_eq_true_eq, decide_true, decide_false, Nat.reduceEqDiff, Nat.reduceLT, Nat.reduceLeDiff, eq_self, Bool.false_eq_true, Bool.true_eq_false, Bool.not_eq_false', Bool.not_eq_true', ite_not, uA_s, uA_n, uA_uA, M_r0_2, M_r0_3, M_a1, M_a2, M_g0_0, M_g0_1, mT_n, mT_00, mT_0k, mT_up, mT_mk, mT_mT, dnf, Bool.not_false, Bool.not_true]
theorem m269_0 {n k : Nat} {y : Int32} (he : e.1 ≤ b) (hl : M.1 0 1 = Int32.ofNat 1) (hn : M.1 1 3 = Int32.ofNat n) (hm : n ≤ 6) (hk : k < n) : dN e (d + 4) 269 [.ref b, .int (Int32.ofNat k), .int y] (ov TM 8 b M m) = rI (letS (M.1 1) (4 + 6 * k) y) (ov TM 8 b (mT M 0) m) := by
  refine en269 M_c0 fun t ht => ?_
  obtain ⟨u, rfl⟩ := fu 12 ht rfl
  simp -implicitDefEqProofs (disch := omega) only [↓reduceIte, q269_0, q269_1, q269_2, c_rd0 he hl hn hm hk, c_let (M := mT M 0) (show 4 + 6 * k ≤ 112 by omega), bd_s, kI_r, kV_r, kL_r, rZ_1, rZ_0, rZ_b, rI_ite, bI_ite, ite_tf, ite_ft, bI0, bI1, bf_ite, nAdd, nMul, nLt, nEq, nEqM, nMEq, nMLt, nLtM, nMLt0, if_true, if_false, Nat.reduceAdd, Nat.reduceMul, Nat.zero_add, Nat.add_zero, decide_eq_true_eq, decide_true, decide_false, Nat.reduceEqDiff, Nat.reduceLT, Nat.reduceLeDiff, eq_self, Bool.false_eq_true, Bool.true_eq_false, Bool.not_eq_false', Bool.not_eq_true', ite_not, uA_s, uA_n, uA_uA, M_r0_2, M_r0_3, M_a1, M_a2, M_g0_0, M_g0_1, mT_n, mT_00, mT_0k, mT_up, mT_mk, mT_mT, dnf, Bool.not_false, Bool.not_true]
theorem c_pl {x y : Int32} (H : WH (M.1 1)) : dN e (d + 2) 240 [.ref b, .int x, .int y] (ov TM 8 b M m) = rI (bI (rngB 0 ((nN (M.1 1 0) : Int) - 1) x && rngB 0 ((nN (M.1 1 1) : Int) - 1) y)) (ov TM 8 b M m) := by
  obtain ⟨n, n1, n2, -, n4⟩ := H.1.ex
  obtain ⟨p, p1, p2, -, p4⟩ := H.2.1.ex
  rw [n2, p2]
  have h8 := c_rngN (e := e) (d := d) (m := (ov TM 8 b M m)) (x := x) (show n ≤ 100000 by omega)
  have h9 := c_rngN (e := e) (d := d) (m := (ov TM 8 b M m)) (x := y) (show p ≤ 100000 by omega)
  refine en240 M_c0 fun t ht => ?_
  obtain ⟨u, rfl⟩ := fu 9 ht rfl
  cases hx : rngB 0 ((n : Int) - 1) x with
  | false =>
    rw [hx] at h8
    simp -implicitDefEqProofs (disch := omega) only [↓reduceIte, q240_0, q240_1, q240_2, n1, p1, h8, h9, bd_s, kI_r, kV_r, kL_r, rZ_1, rZ_0, rZ_b, rI_ite, bI_ite, ite_tf, ite_ft, bI0, bI1, bf_ite, nAdd, nMul, nLt, nEq, nEqM, nMEq, nMLt, nLtM, nMLt0, if_true, if_false, Nat.reduceAdd, Nat.reduceMul, Nat.zero_add, Nat.add_zero, decide_eq_true_eq, decide_true, decide_false, Nat.reduceEqDiff, Nat.reduceLT, Nat.reduceLeDiff, eq_self, Bool.false_eq_true, Bool.true_eq_false, Bool.not_eq_false', Bool.not_eq_true', ite_not, uA_s, uA_n, uA_uA, M_r0_2, M_r0_3, M_a1, M_a2, M_g0_0, M_g0_1, M_a3, M_a4, M_r0_4, M_r0_6, M_g0_5, mT_n, mT_00, mT_0k, mT_up, mT_mk, mT_mT, dnf, Bool.not_false, Bool.not_true]
    rfl
  | true =>
    rw [hx] at h8
    cases hy : rngB 0 ((p : Int) - 1) y with
    | false =>
      rw [hy] at h9
      simp -implicitDefEqProofs (disch := omega) only [↓reduceIte, q240_0, q240_1, q240_2, n1, p1, h8, h9, bd_s, kI_r, kV_r, kL_r, rZ_1, rZ_0, rZ_b, rI_ite, bI_ite, ite_tf, ite_ft, bI0, bI1, bf_ite, nAdd, nMul, nLt, nEq, nEqM, nMEq, nMLt, nLtM, nMLt0, if_true, if_false, Nat.reduceAdd, Nat.reduceMul, Nat.zero_add, Nat.add_zero, decide_eq_true_eq, decide_true, decide_false, Nat.reduceEqDiff, Nat.reduceLT, Nat.reduceLeDiff, eq_self, Bool.false_eq_true, Bool.true_eq_false, Bool.not_eq_false', Bool.not_eq_true', ite_not, uA_s, uA_n, uA_uA, M_r0_2, M_r0_3, M_a1, M_a2, M_g0_0, M_g0_1, M_a3, M_a4, M_r0_4, M_r0_6, M_g0_5, mT_n, mT_00, mT_0k, mT_up, mT_mk, mT_mT, dnf, Bool.not_false, Bool.not_true]
      rfl
    | true =>
      rw [hy] at h9
      simp -implicitDefEqProofs (disch := omega) only [↓reduceIte, q240_0, q240_1, q240_2, n1, p1, h8, h9, bd_s, kI_r, kV_r, kL_r, rZ_1, rZ_0, rZ_b, rI_ite, bI_ite, ite_tf, ite_ft, bI0, bI1, bf_ite, nAdd, nMul, nLt, nEq, nEqM, nMEq, nMLt, nLtM, nMLt0, if_true, if_false, Nat.reduceAdd, Nat.reduceMul, Nat.zero_add, Nat.add_zero, decide_eq_true_eq, decide_true, decide_false, Nat.reduceEqDiff, Nat.reduceLT, Nat.reduceLeDiff, eq_self, Bool.false_eq_true, Bool.true_eq_false, Bool.not_eq_false', Bool.not_eq_true', ite_not, uA_s, uA_n, uA_uA, M_r0_2, M_r0_3, M_a1, M_a2, M_g0_0, M_g0_1, M_a3, M_a4, M_r0_4, M_r0_6, M_g0_5, mT_n, mT_00, mT_0k, mT_up, mT_mk, mT_mT, dnf, Bool.not_false, Bool.not_true]
      rfl
theorem m241_1 {x y : Int32} (he : e.1 ≤ b) (hl : M.1 0 1 = Int32.ofNat 0) : dN e (d + 3) 241 [.ref b, .int x, .int y] (ov TM 8 b M m) = rI (Int32.ofNat 0) (ov TM 8 b (mT M 1) m) := by
  refine en241 M_c0 fun t ht => ?_
  obtain ⟨u, rfl⟩ := fu 12 ht rfl
  simp -implicitDefEqProofs (disch := omega) only [↓reduceIte, q241_0, q241_1, q241_2, q241_3, q241_4, q241_5, c_nl1 he hl, bd_s, kI_r, kV_r, kL_r, rZ_1, rZ_0, rZ_b, rI_ite, bI_ite, ite_tf, ite_ft, bI0, bI1, bf_ite, nAdd, nMul, nLt, nEq, nEqM, nMEq, nMLt, nLtM, nMLt0, if_true, if_false, Nat.reduceAdd, Nat.reduceMul, Nat.zero_add, Nat.add_zero, decide_eq_true_eq, decide_true, decide_false, Nat.reduceEqDiff, Nat.reduceLT, Nat.reduceLeDiff, eq_self, Bool.false_eq_true, Bool.true_eq_false, Bool.not_eq_false', Bool.not_eq_true', ite_not, uA_s, uA_n, uA_uA, M_r0_2, M_r0_3, M_a1, M_a2, M_g0_0, M_g0_1, M_a3, M_a4, M_r0_4, M_r0_6, M_g0_5, mT_n, mT_00, mT_0k, mT_up, mT_mk, mT_mT, dnf, Bool.not_false, Bool.not_true]
theorem m241_2 {x y : Int32} (he : e.1 ≤ b) (hl : M.1 0 1 = Int32.ofNat 1) (H : WH (M.1 1)) (hx : (rngB 0 ((nN (M.1 1 0) : Int) - 1) x && rngB 0 ((nN (M.1 1 1) : Int) - 1) y) = false) : dN e (d + 3) 241 [.ref b, .int x, .int y] (ov TM 8 b M m) = rI (Int32.ofNat 0) (ov TM 8 b (mT M 2) m) := by
  have h9 := c_pl (e := e) (d := d) (b := b) (m := m) (M := mT M 0) (x := x) (y := y) H
  simp (disch := omega) only [mT_n, hx] at h9
  refine en241 M_c0 fun t ht => ?_
  obtain ⟨u, rfl⟩ := fu 12 ht rfl
  simp -implicitDefEqProofs (disch := omega) only [↓reduceIte, q241_0, q241_1, q241_2, q241_3, q241_4, q241_5, c_nl0 he hl, h9, c_ref_t he, bd_s, kI_r, kV_r, kL_r, rZ_1, rZ_0, rZ_b, rI_ite, bI_ite, ite_tf, ite_ft, bI0, bI1, bf_ite, nAdd, nMul, nLt, nEq, nEqM, nMEq, nMLt, nLtM, nMLt0, if_true, if_false, Nat.reduceAdd, Nat.reduceMul, Nat.zero_add, Nat.add_zero, decide_eq_true_eq, decide_true, decide_false, Nat.reduceEqDiff, Nat.reduceLT, Nat.reduceLeDiff, eq_self, Bool.false_eq_true, Bool.true_eq_false, Bool.not_eq_false', Bool.not_eq_true', ite_not, uA_s, uA_n, uA_uA, M_r0_2, M_r0_3, M_a1, M_a2, M_g0_0, M_g0_1, M_a3, M_a4, M_r0_4, M_r0_6, M_g0_5, mT_n, mT_00, mT_0k, mT_up, mT_mk, mT_mT, dnf, Bool.not_false, Bool.not_true]
theorem m241_0 {i j : Nat} (he : e.1 ≤ b) (hl : M.1 0 1 = Int32.ofNat 1) (H : WH (M.1 1)) (W : okI 0 24 (M.1 2 1)) (hi : i < nN (M.1 1 0)) (hj : j < nN (M.1 1 1)) : dN e (d + 3) 241 [.ref b, .int (Int32.ofNat i), .int (Int32.ofNat j)] (ov TM 8 b M m) = rI (boxOnS (M.1 2) (Int32.ofNat (i * nN (M.1 1 1) + j))) (ov TM 8 b (mT M 0) m) := by
  obtain ⟨n, n1, n2, -, n4⟩ := H.1.ex
  obtain ⟨p, p1, p2, -, p4⟩ := H.2.1.ex
  have h9 := c_pl (e := e) (d := d) (b := b) (m := m) (M := mT M 0) (x := Int32.ofNat i) (y := Int32.ofNat j) H
  simp (disch := omega) only [mT_n, rng_k hi (show nN (M.1 1 0) ≤ 100000 by omega), rng_k hj (show nN (M.1 1 1) ≤ 100000 by omega), Bool.and_self] at h9
  rw [p2]
  refine en241 M_c0 fun t ht => ?_
  obtain ⟨u, rfl⟩ := fu 12 ht rfl
  simp -implicitDefEqProofs (disch := omega) only [↓reduceIte, q241_0, q241_1, q241_2, q241_3, q241_4, q241_5, c_nl0 he hl, h9, c_ref_f, p1, c_boxOn (M := mT M 0) W, bd_s, kI_r, kV_r, kL_r, rZ_1, rZ_0, rZ_b, rI_ite, bI_ite, ite_tf, ite_ft, bI0, bI1, bf_ite, nAdd, nMul, nLt, nEq, nEqM, nMEq, nMLt, nLtM, nMLt0, if_true, if_false, Nat.reduceAdd, Nat.reduceMul, Nat.zero_add, Nat.add_zero, decide_eq_true_eq, decide_true, decide_false, Nat.reduceEqDiff, Nat.reduceLT, Nat.reduceLeDiff, eq_self, Bool.false_eq_true, Bool.true_eq_false, Bool.not_eq_false', Bool.not_eq_true', ite_not, uA_s, uA_n, uA_uA, M_r0_2, M_r0_3, M_a1, M_a2, M_g0_0, M_g0_1, M_a3, M_a4, M_r0_4, M_r0_6, M_g0_5, mT_n, mT_00, mT_0k, mT_up, mT_mk, mT_mT, dnf, Bool.not_false, Bool.not_true]
theorem c_out {q : Nat} (he : e.1 ≤ b) (hq : q + 315 ≤ 3465) : dN e (d + 1) 169 [.ref (b + 2), .int (Int32.ofNat 0), .ref (b + 3), .int (Int32.ofNat q)] (ov TM 8 b M m) = some (.inl none, ov TM 8 b (uA M 3 (dCp (M.1 2) (M.1 3) 0 q 315)) m) := by
  refine en169 fun t ht => ?_
  obtain ⟨u, rfl⟩ := fu 1 ht rfl
  rw [q169_0]
  have e0 : uA M 3 (dCp (M.1 2) (M.1 3) 0 q 0) = M := by rw [dCp_0]; exact uA_self M 3
  suffices hh : runL e (dN e d) 169 u 1 [some (.ref (b + 2)), some (.int (Int32.ofNat 0)), some (.ref (b + 3)), some (.int (Int32.ofNat q)), some (.int (Int32.ofNat 0))] [] (ov TM 8 b (uA M 3 (dCp (M.1 2) (M.1 3) 0 q 0)) m) = some (.inl none, ov TM 8 b (uA M 3 (dCp (M.1 2) (M.1 3) 0 q 315)) m) by
    rw [e0] at hh
    exact hh
  refine lp_up2 (c := 2) (n := 315) (G := fun t k => runL e (dN e d) 169 t 1 [some (.ref (b + 2)), some (.int (Int32.ofNat 0)), some (.ref (b + 3)), some (.int (Int32.ofNat q)), some (.int (Int32.ofNat k))] [] (ov TM 8 b (uA M 3 (dCp (M.1 2) (M.1 3) 0 q k)) m)) (fun k hk => ⟨1, by omega, fun t => ?_⟩) (fun t => ?_) u (by omega)
  · have e1 := dCp_s (M.1 2) (M.1 3) 0 q k
    rw [Nat.zero_add] at e1
    simp -implicitDefEqProofs (disch := omega) only [↓reduceIte, q169_1, hk, M_s3 he, e1, uA_s, uA_n, uA_uA, bd_s, kI_r, kV_r, kL_r, rZ_1, rZ_0, rZ_b, rI_ite, bI_ite, ite_tf, ite_ft, bI0, bI1, bf_ite, nAdd, nMul, nLt, nEq, nEqM, nMEq, nMLt, nLtM, nMLt0, if_true, if_false, Nat.reduceAdd, Nat.reduceMul, Nat.zero_add, Nat.add_zero, decide_eq_true_eq, decide_true, decide_false, Nat.reduceEqDiff, Nat.reduceLT, Nat.reduceLeDiff, eq_self, Bool.false_eq_true, Bool.true_eq_false, Bool.not_eq_false', Bool.not_eq_true', ite_not, uA_s, uA_n, uA_uA, M_r0_2, M_r0_3, M_a1, M_a2, M_g0_0, M_g0_1, M_a3, M_a4, M_r0_4, M_r0_6, M_g0_5, mT_n, mT_00, mT_0k, mT_up, mT_mk, mT_mT, dnf, Bool.not_false, Bool.not_true]
  · simp -implicitDefEqProofs (disch := omega) only [↓reduceIte, q169_1, q169_2, Nat.lt_irrefl, bd_s, kI_r, kV_r, kL_r, rZ_1, rZ_0, rZ_b, rI_ite, bI_ite, ite_tf, ite_ft, bI0, bI1, bf_ite, nAdd, nMul, nLt, nEq, nEqM, nMEq, nMLt, nLtM, nMLt0, if_true, if_false, Nat.reduceAdd, Nat.reduceMul, Nat.zero_add, Nat.add_zero, decide_eq_true_eq, decide_true, decide_false, Nat.reduceEqDiff, Nat.reduceLT, Nat.reduceLeDiff, eq_self, Bool.false_eq_true, Bool.true_eq_false, Bool.not_eq_false', Bool.not_eq_true', ite_not, uA_s, uA_n, uA_uA, M_r0_2, M_r0_3, M_a1, M_a2, M_g0_0, M_g0_1, M_a3, M_a4, M_r0_4, M_r0_6, M_g0_5, mT_n, mT_00, mT_0k, mT_up, mT_mk, mT_mT, dnf, Bool.not_false, Bool.not_true]
theorem c_inn {q : Nat} (he : e.1 ≤ b) (hq : q + 315 ≤ 3465) : dN e (d + 1) 169 [.ref (b + 3), .int (Int32.ofNat q), .ref (b + 2), .int (Int32.ofNat 0)] (ov TM 8 b M m) = some (.inl none, ov TM 8 b (uA M 2 (dCp (M.1 3) (M.1 2) q 0 315)) m) := by
  refine en169 fun t ht => ?_
  obtain ⟨u, rfl⟩ := fu 1 ht rfl
  rw [q169_0]
  have e0 : uA M 2 (dCp (M.1 3) (M.1 2) q 0 0) = M := by rw [dCp_0]; exact uA_self M 2
  suffices hh : runL e (dN e d) 169 u 1 [some (.ref (b + 3)), some (.int (Int32.ofNat q)), some (.ref (b + 2)), some (.int (Int32.ofNat 0)), some (.int (Int32.ofNat 0))] [] (ov TM 8 b (uA M 2 (dCp (M.1 3) (M.1 2) q 0 0)) m) = some (.inl none, ov TM 8 b (uA M 2 (dCp (M.1 3) (M.1 2) q 0 315)) m) by
    rw [e0] at hh
    exact hh
  refine lp_up2 (c := 2) (n := 315) (G := fun t k => runL e (dN e d) 169 t 1 [some (.ref (b + 3)), some (.int (Int32.ofNat q)), some (.ref (b + 2)), some (.int (Int32.ofNat 0)), some (.int (Int32.ofNat k))] [] (ov TM 8 b (uA M 2 (dCp (M.1 3) (M.1 2) q 0 k)) m)) (fun k hk => ⟨1, by omega, fun t => ?_⟩) (fun t => ?_) u (by omega)
  · have e1 := dCp_s (M.1 3) (M.1 2) q 0 k
    rw [Nat.zero_add] at e1
    simp -implicitDefEqProofs (disch := omega) only [↓reduceIte, q169_1, hk, M_s2 he, e1, bd_s, kI_r, kV_r, kL_r, rZ_1, rZ_0, rZ_b, rI_ite, bI_ite, ite_tf, ite_ft, bI0, bI1, bf_ite, nAdd, nMul, nLt, nEq, nEqM, nMEq, nMLt, nLtM, nMLt0, if_true, if_false, Nat.reduceAdd, Nat.reduceMul, Nat.zero_add, Nat.add_zero, decide_eq_true_eq, decide_true, decide_false, Nat.reduceEqDiff, Nat.reduceLT, Nat.reduceLeDiff, eq_self, Bool.false_eq_true, Bool.true_eq_false, Bool.not_eq_false', Bool.not_eq_true', ite_not, uA_s, uA_n, uA_uA, M_r0_2, M_r0_3, M_a1, M_a2, M_g0_0, M_g0_1, M_a3, M_a4, M_r0_4, M_r0_6, M_g0_5, mT_n, mT_00, mT_0k, mT_up, mT_mk, mT_mT, dnf, Bool.not_false, Bool.not_true]
  · simp -implicitDefEqProofs (disch := omega) only [↓reduceIte, q169_1, q169_2, Nat.lt_irrefl, bd_s, kI_r, kV_r, kL_r, rZ_1, rZ_0, rZ_b, rI_ite, bI_ite, ite_tf, ite_ft, bI0, bI1, bf_ite, nAdd, nMul, nLt, nEq, nEqM, nMEq, nMLt, nLtM, nMLt0, if_true, if_false, Nat.reduceAdd, Nat.reduceMul, Nat.zero_add, Nat.add_zero, decide_eq_true_eq, decide_true, decide_false, Nat.reduceEqDiff, Nat.reduceLT, Nat.reduceLeDiff, eq_self, Bool.false_eq_true, Bool.true_eq_false, Bool.not_eq_false', Bool.not_eq_true', ite_not, uA_s, uA_n, uA_uA, M_r0_2, M_r0_3, M_a1, M_a2, M_g0_0, M_g0_1, M_a3, M_a4, M_r0_4, M_r0_6, M_g0_5, mT_n, mT_00, mT_0k, mT_up, mT_mk, mT_mT, dnf, Bool.not_false, Bool.not_true]
theorem c_aside (he : e.1 ≤ b) : dN e (d + 2) 170 [.ref b] (ov TM 8 b M m) = some (.inl none, ov TM 8 b (uA M 3 (dCp (M.1 2) (M.1 3) 0 3150 315)) m) := by
  refine en170 M_c0 fun t ht => ?_
  obtain ⟨u, rfl⟩ := fu 9 ht rfl
  simp -implicitDefEqProofs (disch := omega) only [↓reduceIte, q170_0, c_out he, bd_s, kI_r, kV_r, kL_r, rZ_1, rZ_0, rZ_b, rI_ite, bI_ite, ite_tf, ite_ft, bI0, bI1, bf_ite, nAdd, nMul, nLt, nEq, nEqM, nMEq, nMLt, nLtM, nMLt0, if_true, if_false, Nat.reduceAdd, Nat.reduceMul, Nat.zero_add, Nat.add_zero, decide_eq_true_eq, decide_true, decide_false, Nat.reduceEqDiff, Nat.reduceLT, Nat.reduceLeDiff, eq_self, Bool.false_eq_true, Bool.true_eq_false, Bool.not_eq_false', Bool.not_eq_true', ite_not, uA_s, uA_n, uA_uA, M_r0_2, M_r0_3, M_a1, M_a2, M_g0_0, M_g0_1, M_a3, M_a4, M_r0_4, M_r0_6, M_g0_5, mT_n, mT_00, mT_0k, mT_up, mT_mk, mT_mT, dnf, Bool.not_false, Bool.not_true]
theorem c_back {x : Int32} (he : e.1 ≤ b) : dN e (d + 2) 171 [.ref b, .int x] (ov TM 8 b M m) = rI x (ov TM 8 b (uA M 2 (dCp (M.1 3) (M.1 2) 3150 0 315)) m) := by
  refine en171 M_c0 fun t ht => ?_
  obtain ⟨u, rfl⟩ := fu 9 ht rfl
  simp -implicitDefEqProofs (disch := omega) only [↓reduceIte, q171_0, c_inn he, bd_s, kI_r, kV_r, kL_r, rZ_1, rZ_0, rZ_b, rI_ite, bI_ite, ite_tf, ite_ft, bI0, bI1, bf_ite, nAdd, nMul, nLt, nEq, nEqM, nMEq, nMLt, nLtM, nMLt0, if_true, if_false, Nat.reduceAdd, Nat.reduceMul, Nat.zero_add, Nat.add_zero, decide_eq_true_eq, decide_true, decide_false, Nat.reduceEqDiff, Nat.reduceLT, Nat.reduceLeDiff, eq_self, Bool.false_eq_true, Bool.true_eq_false, Bool.not_eq_false', Bool.not_eq_true', ite_not, uA_s, uA_n, uA_uA, M_r0_2, M_r0_3, M_a1, M_a2, M_g0_0, M_g0_1, M_a3, M_a4, M_r0_4, M_r0_6, M_g0_5, mT_n, mT_00, mT_0k, mT_up, mT_mk, mT_mT, dnf, Bool.not_false, Bool.not_true]
/-- what the reference keeps of earlier states: its row of stores and how many -/
def kpR (M : bX) (n : Nat) : sV := if n = 8 then dCp (M.1 2) (dCp (M.1 3) (M.1 3) 315 0 2205) 0 2205 315 else dCp (M.1 2) (M.1 3) 0 (315 * n) 315
def kpM (M : bX) (n : Nat) : bX := uA (uA M 0 (wr (M.1 0) 5 (Int32.ofNat (if n = 8 then 8 else n + 1)))) 3 (kpR M n)
theorem c_keep {n : Nat} (he : e.1 ≤ b) (hn : n ≤ 8) (hc : M.1 0 5 = Int32.ofNat n) : dN e (d + 2) 292 [.ref b] (ov TM 8 b M m) = some (.inl none, ov TM 8 b (kpM M n) m) := by
  unfold kpM kpR
  refine en292 M_c0 fun t ht => ?_
  obtain ⟨u, rfl⟩ := fu 3 ht rfl
  by_cases h8 : n = 8
  · subst h8
    simp only [if_true]
    simp -implicitDefEqProofs (disch := omega) only [↓reduceIte, q292_0, hc, bd_s, kI_r, kV_r, kL_r, rZ_1, rZ_0, rZ_b, rI_ite, bI_ite, ite_tf, ite_ft, bI0, bI1, bf_ite, nAdd, nMul, nLt, nEq, nEqM, nMEq, nMLt, nLtM, nMLt0, if_true, if_false, Nat.reduceAdd, Nat.reduceMul, Nat.zero_add, Nat.add_zero, decide_eq_true_eq, decide_true, decide_false, Nat.reduceEqDiff, Nat.reduceLT, Nat.reduceLeDiff, eq_self, Bool.false_eq_true, Bool.true_eq_false, Bool.not_eq_false', Bool.not_eq_true', ite_not, uA_s, uA_n, uA_uA, M_r0_2, M_r0_3, M_a1, M_a2, M_g0_0, M_g0_1, M_a3, M_a4, M_r0_4, M_r0_6, M_g0_5, mT_n, mT_00, mT_0k, mT_up, mT_mk, mT_mT, dnf, Bool.not_false, Bool.not_true]
    have e0 : uA M 3 (dCp (M.1 3) (M.1 3) 315 0 0) = M := by rw [dCp_0]; exact uA_self M 3
    suffices hh : runL e (dN e (d + 1)) 292 (u + 2) 1 [some (.ref b), some (.int (Int32.ofNat 0))] [] (ov TM 8 b (uA M 3 (dCp (M.1 3) (M.1 3) 315 0 0)) m) = some (.inl none, ov TM 8 b (uA (uA M 0 (wr (M.1 0) 5 (Int32.ofNat 8))) 3 (dCp (M.1 2) (dCp (M.1 3) (M.1 3) 315 0 2205) 0 2205 315)) m) by
      rw [e0] at hh
      exact hh
    refine lp_up2 (c := 3) (n := 2205) (G := fun t k => runL e (dN e (d + 1)) 292 t 1 [some (.ref b), some (.int (Int32.ofNat k))] [] (ov TM 8 b (uA M 3 (dCp (M.1 3) (M.1 3) 315 0 k)) m)) (fun k hk => ⟨1, by omega, fun t => ?_⟩) (fun t => ?_) (u + 2) (by omega)
    · have e1 := dCp_s (M.1 3) (M.1 3) 315 0 k
      have e2 : dCp (M.1 3) (M.1 3) 315 0 k (k + 315) = M.1 3 (315 + k) := by
        unfold dCp
        rw [if_neg (by omega), Nat.add_comm]
      rw [Nat.zero_add] at e1
      simp -implicitDefEqProofs (disch := omega) only [↓reduceIte, q292_1, hk, M_s3 he, e1, e2, uA_s, uA_n, uA_uA, bd_s, kI_r, kV_r, kL_r, rZ_1, rZ_0, rZ_b, rI_ite, bI_ite, ite_tf, ite_ft, bI0, bI1, bf_ite, nAdd, nMul, nLt, nEq, nEqM, nMEq, nMLt, nLtM, nMLt0, if_true, if_false, Nat.reduceAdd, Nat.reduceMul, Nat.zero_add, Nat.add_zero, decide_eq_true_eq, decide_true, decide_false, Nat.reduceEqDiff, Nat.reduceLT, Nat.reduceLeDiff, eq_self, Bool.false_eq_true, Bool.true_eq_false, Bool.not_eq_false', Bool.not_eq_true', ite_not, uA_s, uA_n, uA_uA, M_r0_2, M_r0_3, M_a1, M_a2, M_g0_0, M_g0_1, M_a3, M_a4, M_r0_4, M_r0_6, M_g0_5, mT_n, mT_00, mT_0k, mT_up, mT_mk, mT_mT, dnf, Bool.not_false, Bool.not_true]
    · have := c_out (e := e) (d := d) (b := b) (m := m) (M := uA (uA M 0 (wr (M.1 0) 5 (Int32.ofNat 7))) 3 (dCp (M.1 3) (M.1 3) 315 0 2205)) (q := 2205) he (by omega)
      simp (disch := omega) only [uA_s, uA_n, uA_uA] at this
      rw [q292_1]; (try simp -implicitDefEqProofs (disch := omega) only [↓reduceIte, hc, M_p0_5 he, uA_comm, wr_s, wr_wr, nSub, this, Nat.lt_irrefl, bd_s, kI_r, kV_r, kL_r, rZ_1, rZ_0, rZ_b, rI_ite, bI_ite, ite_tf, ite_ft, bI0, bI1, bf_ite, nAdd, nMul, nLt, nEq, nEqM, nMEq, nMLt, nLtM, nMLt0, if_true, if_false, Nat.reduceAdd, Nat.reduceMul, Nat.zero_add, Nat.add_zero, decide_eq_true_eq, decide_true, decide_false, Nat.reduceEqDiff, Nat.reduceLT, Nat.reduceLeDiff, eq_self, Bool.false_eq_true, Bool.true_eq_false, Bool.not_eq_false', Bool.not_eq_true', ite_not, uA_s, uA_n, uA_uA, M_r0_2, M_r0_3, M_a1, M_a2, M_g0_0, M_g0_1, M_a3, M_a4, M_r0_4, M_r0_6, M_g0_5, mT_n, mT_00, mT_0k, mT_up, mT_mk, mT_mT, dnf, Bool.not_false, Bool.not_true]); rw [q292_2]; (try simp -implicitDefEqProofs (disch := omega) only [↓reduceIte, hc, M_p0_5 he, uA_comm, wr_s, wr_wr, nSub, this, Nat.lt_irrefl, bd_s, kI_r, kV_r, kL_r, rZ_1, rZ_0, rZ_b, rI_ite, bI_ite, ite_tf, ite_ft, bI0, bI1, bf_ite, nAdd, nMul, nLt, nEq, nEqM, nMEq, nMLt, nLtM, nMLt0, if_true, if_false, Nat.reduceAdd, Nat.reduceMul, Nat.zero_add, Nat.add_zero, decide_eq_true_eq, decide_true, decide_false, Nat.reduceEqDiff, Nat.reduceLT, Nat.reduceLeDiff, eq_self, Bool.false_eq_true, Bool.true_eq_false, Bool.not_eq_false', Bool.not_eq_true', ite_not, uA_s, uA_n, uA_uA, M_r0_2, M_r0_3, M_a1, M_a2, M_g0_0, M_g0_1, M_a3, M_a4, M_r0_4, M_r0_6, M_g0_5, mT_n, mT_00, mT_0k, mT_up, mT_mk, mT_mT, dnf, Bool.not_false, Bool.not_true]); rw [q292_3]; (try simp -implicitDefEqProofs (disch := omega) only [↓reduceIte, hc, M_p0_5 he, uA_comm, wr_s, wr_wr, nSub, this, Nat.lt_irrefl, bd_s, kI_r, kV_r, kL_r, rZ_1, rZ_0, rZ_b, rI_ite, bI_ite, ite_tf, ite_ft, bI0, bI1, bf_ite, nAdd, nMul, nLt, nEq, nEqM, nMEq, nMLt, nLtM, nMLt0, if_true, if_false, Nat.reduceAdd, Nat.reduceMul, Nat.zero_add, Nat.add_zero, decide_eq_true_eq, decide_true, decide_false, Nat.reduceEqDiff, Nat.reduceLT, Nat.reduceLeDiff, eq_self, Bool.false_eq_true, Bool.true_eq_false, Bool.not_eq_false', Bool.not_eq_true', ite_not, uA_s, uA_n, uA_uA, M_r0_2, M_r0_3, M_a1, M_a2, M_g0_0, M_g0_1, M_a3, M_a4, M_r0_4, M_r0_6, M_g0_5, mT_n, mT_00, mT_0k, mT_up, mT_mk, mT_mT, dnf, Bool.not_false, Bool.not_true])
  · rw [if_neg h8, if_neg h8]
    have := c_out (e := e) (d := d) (b := b) (m := m) (M := M) (q := 315 * n) he (by omega)
    rw [q292_0]; (try simp -implicitDefEqProofs (disch := omega) only [↓reduceIte, hc, h8, M_p0_5 he, uA_comm, this, bd_s, kI_r, kV_r, kL_r, rZ_1, rZ_0, rZ_b, rI_ite, bI_ite, ite_tf, ite_ft, bI0, bI1, bf_ite, nAdd, nMul, nLt, nEq, nEqM, nMEq, nMLt, nLtM, nMLt0, if_true, if_false, Nat.reduceAdd, Nat.reduceMul, Nat.zero_add, Nat.add_zero, decide_eq_true_eq, decide_true, decide_false, Nat.reduceEqDiff, Nat.reduceLT, Nat.reduceLeDiff, eq_self, Bool.false_eq_true, Bool.true_eq_false, Bool.not_eq_false', Bool.not_eq_true', ite_not, uA_s, uA_n, uA_uA, M_r0_2, M_r0_3, M_a1, M_a2, M_g0_0, M_g0_1, M_a3, M_a4, M_r0_4, M_r0_6, M_g0_5, mT_n, mT_00, mT_0k, mT_up, mT_mk, mT_mT, dnf, Bool.not_false, Bool.not_true]); rw [q292_3]; (try simp -implicitDefEqProofs (disch := omega) only [↓reduceIte, hc, h8, M_p0_5 he, uA_comm, this, bd_s, kI_r, kV_r, kL_r, rZ_1, rZ_0, rZ_b, rI_ite, bI_ite, ite_tf, ite_ft, bI0, bI1, bf_ite, nAdd, nMul, nLt, nEq, nEqM, nMEq, nMLt, nLtM, nMLt0, if_true, if_false, Nat.reduceAdd, Nat.reduceMul, Nat.zero_add, Nat.add_zero, decide_eq_true_eq, decide_true, decide_false, Nat.reduceEqDiff, Nat.reduceLT, Nat.reduceLeDiff, eq_self, Bool.false_eq_true, Bool.true_eq_false, Bool.not_eq_false', Bool.not_eq_true', ite_not, uA_s, uA_n, uA_uA, M_r0_2, M_r0_3, M_a1, M_a2, M_g0_0, M_g0_1, M_a3, M_a4, M_r0_4, M_r0_6, M_g0_5, mT_n, mT_00, mT_0k, mT_up, mT_mk, mT_mT, dnf, Bool.not_false, Bool.not_true])
end
end

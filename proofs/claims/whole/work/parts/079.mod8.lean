/-! ===== the reference's changes with more conditions; forecasts (printed by wip/whole/mod8.py) ===== -/
noncomputable section
section
variable {e : dEnv} {d b Y c : Nat} {M : bX} {m : dMem}
theorem m267_1 {x : Int32} (he : e.1 ≤ b) (hl : M.1 0 1 = Int32.ofNat 0) : dN e (d + 3) 267 [.ref b, .int x] (ov TM 8 b M m) = rI (Int32.ofNat 0) (ov TM 8 b (mT M 1) m) := by
  refine en267 M_c0 fun t ht => ?_
  obtain ⟨u, rfl⟩ := fu 9 ht rfl
  simp -implicitDefEqProofs (disch := omega) only [↓reduceIte, q267_0, q267_1, q267_2, q267_3, q267_4, q267_5, c_nl1 he hl, bd_s, kI_r, kV_r, kL_r, rZ_1, rZ_0, rZ_b, rI_ite, bI_ite, ite_tf, ite_ft, bI0, bI1, bf_ite, nAdd, nMul, nLt, nEq, nEqM, nMEq, nMLt, nLtM, nMLt0, if_true, if_false, Nat.reduceAdd, Nat.reduceMul, Nat.zero_add, Nat.add_zero, decide_eq_true_eq, decide_true, decide_false, Nat.reduceEqDiff, Nat.reduceLT, Nat.reduceLeDiff, eq_self, Bool.false_eq_true, Bool.true_eq_false, Bool.not_eq_false', Bool.not_eq_true', ite_not, uA_s, uA_n, uA_uA, M_r0_2, M_r0_3, M_a1, M_a2, M_g0_0, M_g0_1, M_a3, M_a4, M_r0_4, M_r0_6, M_g0_5, mT_n, mT_00, mT_0k, mT_up, mT_mk, mT_mT, kp_n, kp_0, dnf, Bool.not_false, Bool.not_true]
theorem m267_2 {x : Int32} {n : Nat} (he : e.1 ≤ b) (hl : M.1 0 1 = Int32.ofNat 1) (hn : M.1 2 2 = Int32.ofNat n) (hm : n ≤ 24) (hx : rngB 0 ((n : Int) - 1) x = false) : dN e (d + 3) 267 [.ref b, .int x] (ov TM 8 b M m) = rI (Int32.ofNat 0) (ov TM 8 b (mT M 2) m) := by
  have h9 := c_rngN (e := e) (d := d + 1) (m := (ov TM 8 b (mT M 0) m)) (x := x) (show n ≤ 100000 by omega)
  rw [hx] at h9
  refine en267 M_c0 fun t ht => ?_
  obtain ⟨u, rfl⟩ := fu 9 ht rfl
  simp -implicitDefEqProofs (disch := omega) only [↓reduceIte, q267_0, q267_1, q267_2, q267_3, q267_4, q267_5, c_nl0 he hl, hn, h9, c_ref_t he, bd_s, kI_r, kV_r, kL_r, rZ_1, rZ_0, rZ_b, rI_ite, bI_ite, ite_tf, ite_ft, bI0, bI1, bf_ite, nAdd, nMul, nLt, nEq, nEqM, nMEq, nMLt, nLtM, nMLt0, if_true, if_false, Nat.reduceAdd, Nat.reduceMul, Nat.zero_add, Nat.add_zero, decide_eq_true_eq, decide_true, decide_false, Nat.reduceEqDiff, Nat.reduceLT, Nat.reduceLeDiff, eq_self, Bool.false_eq_true, Bool.true_eq_false, Bool.not_eq_false', Bool.not_eq_true', ite_not, uA_s, uA_n, uA_uA, M_r0_2, M_r0_3, M_a1, M_a2, M_g0_0, M_g0_1, M_a3, M_a4, M_r0_4, M_r0_6, M_g0_5, mT_n, mT_00, mT_0k, mT_up, mT_mk, mT_mT, kp_n, kp_0, dnf, Bool.not_false, Bool.not_true]
theorem m267_0 {n k : Nat} (he : e.1 ≤ b) (hl : M.1 0 1 = Int32.ofNat 1) (hn : M.1 2 2 = Int32.ofNat n) (hm : n ≤ 24) (hk : k < n) : dN e (d + 3) 267 [.ref b, .int (Int32.ofNat k)] (ov TM 8 b M m) = rI (M.1 2 (3 + k)) (ov TM 8 b (mT M 0) m) := by
  have h9 := c_rngN (e := e) (d := d + 1) (m := (ov TM 8 b (mT M 0) m)) (x := Int32.ofNat k) (show n ≤ 100000 by omega)
  rw [rng_k hk (by omega)] at h9
  refine en267 M_c0 fun t ht => ?_
  obtain ⟨u, rfl⟩ := fu 9 ht rfl
  simp -implicitDefEqProofs (disch := omega) only [↓reduceIte, q267_0, q267_1, q267_2, q267_3, q267_4, q267_5, c_nl0 he hl, hn, h9, c_ref_f, bd_s, kI_r, kV_r, kL_r, rZ_1, rZ_0, rZ_b, rI_ite, bI_ite, ite_tf, ite_ft, bI0, bI1, bf_ite, nAdd, nMul, nLt, nEq, nEqM, nMEq, nMLt, nLtM, nMLt0, if_true, if_false, Nat.reduceAdd, Nat.reduceMul, Nat.zero_add, Nat.add_zero, decide_eq_true_eq, decide_true, decide_false, Nat.reduceEqDiff, Nat.reduceLT, Nat.reduceLeDiff, eq_self, Bool.false_eq_true, Bool.true_eq_false, Bool.not_eq_false', Bool.not_eq_true', ite_not, uA_s, uA_n, uA_uA, M_r0_2, M_r0_3, M_a1, M_a2, M_g0_0, M_g0_1, M_a3, M_a4, M_r0_4, M_r0_6, M_g0_5, mT_n, mT_00, mT_0k, mT_up, mT_mk, mT_mT, kp_n, kp_0, dnf, Bool.not_false, Bool.not_true]
theorem m297_1 {x y : Int32} (he : e.1 ≤ b) (hl : M.1 0 1 = Int32.ofNat 0) : dN e (d + 6) 297 [.ref b, .int x, .int y] (ov TM 8 b M m) = rI (bI false) (ov TM 8 b (mT M 1) m) := by
  refine en297 M_c0 fun t ht => ?_
  obtain ⟨u, rfl⟩ := fu 9 ht rfl
  simp -implicitDefEqProofs (disch := omega) only [↓reduceIte, q297_0, q297_1, q297_2, q297_3, q297_4, c_bt1 he hl, bd_s, kI_r, kV_r, kL_r, rZ_1, rZ_0, rZ_b, rI_ite, bI_ite, ite_tf, ite_ft, bI0, bI1, bf_ite, nAdd, nMul, nLt, nEq, nEqM, nMEq, nMLt, nLtM, nMLt0, if_true, if_false, Nat.reduceAdd, Nat.reduceMul, Nat.zero_add, Nat.add_zero, decide_eq_true_eq, decide_true, decide_false, Nat.reduceEqDiff, Nat.reduceLT, Nat.reduceLeDiff, eq_self, Bool.false_eq_true, Bool.true_eq_false, Bool.not_eq_false', Bool.not_eq_true', ite_not, uA_s, uA_n, uA_uA, M_r0_2, M_r0_3, M_a1, M_a2, M_g0_0, M_g0_1, M_a3, M_a4, M_r0_4, M_r0_6, M_g0_5, mT_n, mT_00, mT_0k, mT_up, mT_mk, mT_mT, kp_n, kp_0, dnf, Bool.not_false, Bool.not_true]
theorem m297_2 {x y : Int32} {r n : Nat} (he : e.1 ≤ b) (hl : M.1 0 1 = Int32.ofNat 1) (hr : M.1 1 3 = Int32.ofNat r) (hr6 : r ≤ 6) (hn : M.1 2 1 = Int32.ofNat n) (hm : n ≤ 24) (hx : (rngB 0 ((r : Int) - 1) x && rngB 0 ((n : Int) - 1) y) = false) : dN e (d + 6) 297 [.ref b, .int x, .int y] (ov TM 8 b M m) = rI (bI false) (ov TM 8 b (mT M 2) m) := by
  refine en297 M_c0 fun t ht => ?_
  obtain ⟨u, rfl⟩ := fu 9 ht rfl
  simp -implicitDefEqProofs (disch := omega) only [↓reduceIte, q297_0, q297_1, q297_2, q297_3, q297_4, c_bt2 he hl hr hr6 hn hm hx, bd_s, kI_r, kV_r, kL_r, rZ_1, rZ_0, rZ_b, rI_ite, bI_ite, ite_tf, ite_ft, bI0, bI1, bf_ite, nAdd, nMul, nLt, nEq, nEqM, nMEq, nMLt, nLtM, nMLt0, if_true, if_false, Nat.reduceAdd, Nat.reduceMul, Nat.zero_add, Nat.add_zero, decide_eq_true_eq, decide_true, decide_false, Nat.reduceEqDiff, Nat.reduceLT, Nat.reduceLeDiff, eq_self, Bool.false_eq_true, Bool.true_eq_false, Bool.not_eq_false', Bool.not_eq_true', ite_not, uA_s, uA_n, uA_uA, M_r0_2, M_r0_3, M_a1, M_a2, M_g0_0, M_g0_1, M_a3, M_a4, M_r0_4, M_r0_6, M_g0_5, mT_n, mT_00, mT_0k, mT_up, mT_mk, mT_mT, kp_n, kp_0, dnf, Bool.not_false, Bool.not_true]
theorem m297_3 {j k r n : Nat} (he : e.1 ≤ b) (hl : M.1 0 1 = Int32.ofNat 1) (hr : M.1 1 3 = Int32.ofNat r) (hr6 : r ≤ 6) (hn : M.1 2 1 = Int32.ofNat n) (hm : n ≤ 24) (hj : j < r) (hk : k < n) (hq : okI 0 7 (bx (M.1 2) k 0)) (hw : okI 0 3 (bx (M.1 2) k 8)) (ho : ¬ obsS (M.1 2) (M.1 1) (Int32.ofNat j) k = Int32.ofNat 0) : dN e (d + 6) 297 [.ref b, .int (Int32.ofNat j), .int (Int32.ofNat k)] (ov TM 8 b M m) = rI (bI false) (ov TM 8 b (mT M 3) m) := by
  have h9 := c_obs (e := e) (d := d + 2) (b := b) (m := m) (M := mT M 0) (r := Int32.ofNat j) (show k < 24 by omega) hq hw
  refine en297 M_c0 fun t ht => ?_
  obtain ⟨u, rfl⟩ := fu 9 ht rfl
  simp -implicitDefEqProofs (disch := omega) only [↓reduceIte, q297_0, q297_1, q297_2, q297_3, q297_4, c_bt0 he hl hr hr6 hn hm hj hk, h9, ho, c_ref_t he, bd_s, kI_r, kV_r, kL_r, rZ_1, rZ_0, rZ_b, rI_ite, bI_ite, ite_tf, ite_ft, bI0, bI1, bf_ite, nAdd, nMul, nLt, nEq, nEqM, nMEq, nMLt, nLtM, nMLt0, if_true, if_false, Nat.reduceAdd, Nat.reduceMul, Nat.zero_add, Nat.add_zero, decide_eq_true_eq, decide_true, decide_false, Nat.reduceEqDiff, Nat.reduceLT, Nat.reduceLeDiff, eq_self, Bool.false_eq_true, Bool.true_eq_false, Bool.not_eq_false', Bool.not_eq_true', ite_not, uA_s, uA_n, uA_uA, M_r0_2, M_r0_3, M_a1, M_a2, M_g0_0, M_g0_1, M_a3, M_a4, M_r0_4, M_r0_6, M_g0_5, mT_n, mT_00, mT_0k, mT_up, mT_mk, mT_mT, kp_n, kp_0, dnf, Bool.not_false, Bool.not_true]
theorem m297_0 {j k r n : Nat} (he : e.1 ≤ b) (hl : M.1 0 1 = Int32.ofNat 1) (hc8 : c ≤ 8) (hc : M.1 0 5 = Int32.ofNat c) (hr : M.1 1 3 = Int32.ofNat r) (hr6 : r ≤ 6) (hn : M.1 2 1 = Int32.ofNat n) (hm : n ≤ 24) (hj : j < r) (hk : k < n) (hq : okI 0 7 (bx (M.1 2) k 0)) (hw : okI 0 3 (bx (M.1 2) k 8)) (hv : nN (bx (M.1 2) k 8) ≠ 3 ∨ reqB (M.1 2) (M.1 1) (Int32.ofNat j) k = true) (ho : obsS (M.1 2) (M.1 1) (Int32.ofNat j) k = Int32.ofNat 0) : dN e (d + 6) 297 [.ref b, .int (Int32.ofNat j), .int (Int32.ofNat k)] (ov TM 8 b M m) = rI (bI (reqB (M.1 2) (M.1 1) (Int32.ofNat j) k)) (ov TM 8 b (uA (kpM (mT M 0) c) 2 (reqS (M.1 2) (M.1 1) (Int32.ofNat j) k)) m) := by
  have h9 := c_obs (e := e) (d := d + 2) (b := b) (m := m) (M := mT M 0) (r := Int32.ofNat j) (show k < 24 by omega) hq hw
  have e2 : (kpM (mT M 0) c).1 2 = M.1 2 := by rw [kp_n (by omega) (by omega), mT_n (by omega)]
  have e1 : (kpM (mT M 0) c).1 1 = M.1 1 := by rw [kp_n (by omega) (by omega), mT_n (by omega)]
  have g := c_req (e := e) (d := d + 1) (b := b) (m := m) (M := kpM (mT M 0) c) (r := Int32.ofNat j) (k := k) he (by omega) (by rw [e2, hn]; exact okI_of (by omega) (by omega) (by omega)) (okI_of (by omega) (by omega) (by omega)) (by rw [e2]; exact hw) (by rw [e2, e1]; exact hv)
  rw [e1, e2] at g
  refine en297 M_c0 fun t ht => ?_
  obtain ⟨u, rfl⟩ := fu 9 ht rfl
  simp -implicitDefEqProofs (disch := omega) only [↓reduceIte, q297_0, q297_1, q297_2, q297_3, q297_4, c_bt0 he hl hr hr6 hn hm hj hk, h9, ho, c_ref_f, c_kp he hc8 hc, g, bd_s, kI_r, kV_r, kL_r, rZ_1, rZ_0, rZ_b, rI_ite, bI_ite, ite_tf, ite_ft, bI0, bI1, bf_ite, nAdd, nMul, nLt, nEq, nEqM, nMEq, nMLt, nLtM, nMLt0, if_true, if_false, Nat.reduceAdd, Nat.reduceMul, Nat.zero_add, Nat.add_zero, decide_eq_true_eq, decide_true, decide_false, Nat.reduceEqDiff, Nat.reduceLT, Nat.reduceLeDiff, eq_self, Bool.false_eq_true, Bool.true_eq_false, Bool.not_eq_false', Bool.not_eq_true', ite_not, uA_s, uA_n, uA_uA, M_r0_2, M_r0_3, M_a1, M_a2, M_g0_0, M_g0_1, M_a3, M_a4, M_r0_4, M_r0_6, M_g0_5, mT_n, mT_00, mT_0k, mT_up, mT_mk, mT_mT, kp_n, kp_0, dnf, Bool.not_false, Bool.not_true]
theorem m300_3 {n k : Nat} {y : Int32} (he : e.1 ≤ b) (hl : M.1 0 1 = Int32.ofNat 1) (hn : M.1 2 1 = Int32.ofNat n) (hm : n ≤ 24) (hk : k < n) (W2 : okI 0 24 (M.1 2 2)) (hx : (rngB 1 20 y && isLB (M.1 2) (Int32.ofNat k)) = false) : dN e (d + 4) 300 [.ref b, .int (Int32.ofNat k), .int y] (ov TM 8 b M m) = rI (Int32.ofNat 0) (ov TM 8 b (mT M 3) m) := by
  have h9 : dN e (d + 3) 165 [.long y.toInt64, .long 1, .long 20] (ov TM 8 b (mT M 0) m) = rI (bI (rngB 1 20 y)) (ov TM 8 b (mT M 0) m) := c_rng
  cases h1 : rngB 1 20 y with
  | false =>
    rw [h1] at h9
    refine en300 M_c0 fun t ht => ?_
    obtain ⟨u, rfl⟩ := fu 9 ht rfl
    simp -implicitDefEqProofs (disch := omega) only [↓reduceIte, q300_0, q300_1, q300_2, q300_3, q300_4, q300_5, c_bo0 he hl hn hm hk, h9, c_ref_t he, bd_s, kI_r, kV_r, kL_r, rZ_1, rZ_0, rZ_b, rI_ite, bI_ite, ite_tf, ite_ft, bI0, bI1, bf_ite, nAdd, nMul, nLt, nEq, nEqM, nMEq, nMLt, nLtM, nMLt0, if_true, if_false, Nat.reduceAdd, Nat.reduceMul, Nat.zero_add, Nat.add_zero, decide_eq_true_eq, decide_true, decide_false, Nat.reduceEqDiff, Nat.reduceLT, Nat.reduceLeDiff, eq_self, Bool.false_eq_true, Bool.true_eq_false, Bool.not_eq_false', Bool.not_eq_true', ite_not, uA_s, uA_n, uA_uA, M_r0_2, M_r0_3, M_a1, M_a2, M_g0_0, M_g0_1, M_a3, M_a4, M_r0_4, M_r0_6, M_g0_5, mT_n, mT_00, mT_0k, mT_up, mT_mk, mT_mT, kp_n, kp_0, dnf, Bool.not_false, Bool.not_true]
  | true =>
    rw [h1] at h9 hx
    rw [Bool.true_and] at hx
    refine en300 M_c0 fun t ht => ?_
    obtain ⟨u, rfl⟩ := fu 9 ht rfl
    simp -implicitDefEqProofs (disch := omega) only [↓reduceIte, q300_0, q300_1, q300_2, q300_3, q300_4, q300_5, c_bo0 he hl hn hm hk, h9, c_ref_t he, c_isL (M := mT M 0) W2, hx, bd_s, kI_r, kV_r, kL_r, rZ_1, rZ_0, rZ_b, rI_ite, bI_ite, ite_tf, ite_ft, bI0, bI1, bf_ite, nAdd, nMul, nLt, nEq, nEqM, nMEq, nMLt, nLtM, nMLt0, if_true, if_false, Nat.reduceAdd, Nat.reduceMul, Nat.zero_add, Nat.add_zero, decide_eq_true_eq, decide_true, decide_false, Nat.reduceEqDiff, Nat.reduceLT, Nat.reduceLeDiff, eq_self, Bool.false_eq_true, Bool.true_eq_false, Bool.not_eq_false', Bool.not_eq_true', ite_not, uA_s, uA_n, uA_uA, M_r0_2, M_r0_3, M_a1, M_a2, M_g0_0, M_g0_1, M_a3, M_a4, M_r0_4, M_r0_6, M_g0_5, mT_n, mT_00, mT_0k, mT_up, mT_mk, mT_mT, kp_n, kp_0, dnf, Bool.not_false, Bool.not_true]
theorem m300_0 {n k y : Nat} (he : e.1 ≤ b) (hl : M.1 0 1 = Int32.ofNat 1) (hc8 : c ≤ 8) (hc : M.1 0 5 = Int32.ofNat c) (W : WS Y (M.1 1) (M.1 2)) (hn : M.1 2 1 = Int32.ofNat n) (hm : n ≤ 24) (hk : k < n) (h1 : 1 ≤ y) (h20 : y ≤ 20) (hL : isLB (M.1 2) (Int32.ofNat k) = true) (hq : okI 0 7 (bx (stkS (M.1 2) k (Int32.ofNat y)) k 0)) : dN e (d + 4) 300 [.ref b, .int (Int32.ofNat k), .int (Int32.ofNat y)] (ov TM 8 b M m) = rI (dueS (stkS (M.1 2) k (Int32.ofNat y)) (M.1 1) k) (ov TM 8 b (uA (kpM (mT M 0) c) 2 (stkS (M.1 2) k (Int32.ofNat y))) m) := by
  have h9 : dN e (d + 3) 165 [.long (Int32.ofNat y).toInt64, .long 1, .long 20] (ov TM 8 b (mT M 0) m) = rI (bI (rngB 1 20 (Int32.ofNat y))) (ov TM 8 b (mT M 0) m) := c_rng
  rw [rng_n (lo := 1) (hi := 20) (n := y) (by omega) (by omega) (by omega)] at h9
  have e2 : (kpM (mT M 0) c).1 2 = M.1 2 := by rw [kp_n (by omega) (by omega), mT_n (by omega)]
  have e1 : (kpM (mT M 0) c).1 1 = M.1 1 := by rw [kp_n (by omega) (by omega), mT_n (by omega)]
  have g := c_stk (e := e) (d := d + 1) (b := b) (m := m) (M := kpM (mT M 0) c) (k := k) (y := Int32.ofNat y) he (by omega) (by rw [e2]; exact W.2.1)
  rw [e2] at g
  have g3 := c_due (e := e) (d := d + 1) (b := b) (m := m) (M := uA (kpM (mT M 0) c) 2 (stkS (M.1 2) k (Int32.ofNat y))) (k := k) (by omega) (by rw [uA_s]; exact hq)
  rw [uA_s, uA_n (by omega), e1] at g3
  refine en300 M_c0 fun t ht => ?_
  obtain ⟨u, rfl⟩ := fu 9 ht rfl
  simp -implicitDefEqProofs (disch := omega) only [↓reduceIte, q300_0, q300_1, q300_2, q300_3, q300_4, q300_5, c_bo0 he hl hn hm hk, h9, c_ref_f, c_isL (M := mT M 0) W.2.1, hL, c_kp he hc8 hc, g, g3, bd_s, kI_r, kV_r, kL_r, rZ_1, rZ_0, rZ_b, rI_ite, bI_ite, ite_tf, ite_ft, bI0, bI1, bf_ite, nAdd, nMul, nLt, nEq, nEqM, nMEq, nMLt, nLtM, nMLt0, if_true, if_false, Nat.reduceAdd, Nat.reduceMul, Nat.zero_add, Nat.add_zero, decide_eq_true_eq, decide_true, decide_false, Nat.reduceEqDiff, Nat.reduceLT, Nat.reduceLeDiff, eq_self, Bool.false_eq_true, Bool.true_eq_false, Bool.not_eq_false', Bool.not_eq_true', ite_not, uA_s, uA_n, uA_uA, M_r0_2, M_r0_3, M_a1, M_a2, M_g0_0, M_g0_1, M_a3, M_a4, M_r0_4, M_r0_6, M_g0_5, mT_n, mT_00, mT_0k, mT_up, mT_mk, mT_mT, kp_n, kp_0, dnf, Bool.not_false, Bool.not_true]
theorem m294_3 {n k : Nat} {y : Int32} (he : e.1 ≤ b) (hl : M.1 0 1 = Int32.ofNat 1) (hn : M.1 1 2 = Int32.ofNat n) (hm : n ≤ 8) (hk : k < n) (W1 : okI 0 24 (M.1 2 1)) (H : WH (M.1 1)) (hx : (rngB 1800 (M.1 2 0).toInt y && !decide (M.1 2 1 = Int32.ofNat 24) && !decide (fstS (M.1 2) (M.1 1) = nM1)) = false) : dN e (d + 6) 294 [.ref b, .int (Int32.ofNat k), .int y] (ov TM 8 b M m) = rI (Int32.ofNat 0) (ov TM 8 b (mT M 3) m) := by
  have h9 : dN e (d + 5) 165 [.long y.toInt64, .long 1800, .long (M.1 2 0).toInt64] (ov TM 8 b (mT M 0) m) = rI (bI (rngB 1800 (M.1 2 0).toInt64.toInt y)) (ov TM 8 b (mT M 0) m) := c_rng
  rw [Int32.toInt_toInt64] at h9
  have g := c_fst (e := e) (d := d + 2) (b := b) (m := m) (M := mT M 0) W1 H
  simp (disch := omega) only [mT_n] at g
  refine en294 M_c0 fun t ht => ?_
  obtain ⟨u, rfl⟩ := fu 9 ht rfl
  cases h1 : rngB 1800 (M.1 2 0).toInt y with
  | false =>
    rw [h1] at h9
    simp -implicitDefEqProofs (disch := omega) only [↓reduceIte, q294_0, q294_1, q294_2, q294_3, q294_4, q294_5, c_cl0 he hl hn hm hk, h9, c_ref_t he, bd_s, kI_r, kV_r, kL_r, rZ_1, rZ_0, rZ_b, rI_ite, bI_ite, ite_tf, ite_ft, bI0, bI1, bf_ite, nAdd, nMul, nLt, nEq, nEqM, nMEq, nMLt, nLtM, nMLt0, if_true, if_false, Nat.reduceAdd, Nat.reduceMul, Nat.zero_add, Nat.add_zero, decide_eq_true_eq, decide_true, decide_false, Nat.reduceEqDiff, Nat.reduceLT, Nat.reduceLeDiff, eq_self, Bool.false_eq_true, Bool.true_eq_false, Bool.not_eq_false', Bool.not_eq_true', ite_not, uA_s, uA_n, uA_uA, M_r0_2, M_r0_3, M_a1, M_a2, M_g0_0, M_g0_1, M_a3, M_a4, M_r0_4, M_r0_6, M_g0_5, mT_n, mT_00, mT_0k, mT_up, mT_mk, mT_mT, kp_n, kp_0, dnf, Bool.not_false, Bool.not_true]
  | true =>
    rw [h1] at h9 hx
    by_cases h2 : M.1 2 1 = Int32.ofNat 24
    · simp -implicitDefEqProofs (disch := omega) only [↓reduceIte, q294_0, q294_1, q294_2, q294_3, q294_4, q294_5, c_cl0 he hl hn hm hk, h9, h2, c_ref_t he, bd_s, kI_r, kV_r, kL_r, rZ_1, rZ_0, rZ_b, rI_ite, bI_ite, ite_tf, ite_ft, bI0, bI1, bf_ite, nAdd, nMul, nLt, nEq, nEqM, nMEq, nMLt, nLtM, nMLt0, if_true, if_false, Nat.reduceAdd, Nat.reduceMul, Nat.zero_add, Nat.add_zero, decide_eq_true_eq, decide_true, decide_false, Nat.reduceEqDiff, Nat.reduceLT, Nat.reduceLeDiff, eq_self, Bool.false_eq_true, Bool.true_eq_false, Bool.not_eq_false', Bool.not_eq_true', ite_not, uA_s, uA_n, uA_uA, M_r0_2, M_r0_3, M_a1, M_a2, M_g0_0, M_g0_1, M_a3, M_a4, M_r0_4, M_r0_6, M_g0_5, mT_n, mT_00, mT_0k, mT_up, mT_mk, mT_mT, kp_n, kp_0, dnf, Bool.not_false, Bool.not_true]
    · by_cases h3 : fstS (M.1 2) (M.1 1) = nM1
      · simp -implicitDefEqProofs (disch := omega) only [↓reduceIte, q294_0, q294_1, q294_2, q294_3, q294_4, q294_5, c_cl0 he hl hn hm hk, h9, h2, g, h3, c_ref_t he, bd_s, kI_r, kV_r, kL_r, rZ_1, rZ_0, rZ_b, rI_ite, bI_ite, ite_tf, ite_ft, bI0, bI1, bf_ite, nAdd, nMul, nLt, nEq, nEqM, nMEq, nMLt, nLtM, nMLt0, if_true, if_false, Nat.reduceAdd, Nat.reduceMul, Nat.zero_add, Nat.add_zero, decide_eq_true_eq, decide_true, decide_false, Nat.reduceEqDiff, Nat.reduceLT, Nat.reduceLeDiff, eq_self, Bool.false_eq_true, Bool.true_eq_false, Bool.not_eq_false', Bool.not_eq_true', ite_not, uA_s, uA_n, uA_uA, M_r0_2, M_r0_3, M_a1, M_a2, M_g0_0, M_g0_1, M_a3, M_a4, M_r0_4, M_r0_6, M_g0_5, mT_n, mT_00, mT_0k, mT_up, mT_mk, mT_mT, kp_n, kp_0, dnf, Bool.not_false, Bool.not_true]
      · rw [decide_eq_false h2, decide_eq_false h3] at hx
        cases hx
theorem m294_0 {n k : Nat} {y : Int32} (he : e.1 ≤ b) (hl : M.1 0 1 = Int32.ofNat 1) (hc8 : c ≤ 8) (hc : M.1 0 5 = Int32.ofNat c) (hn : M.1 1 2 = Int32.ofNat n) (hm : n ≤ 8) (hk : k < n) (W1 : okI 0 24 (M.1 2 1)) (H : WH (M.1 1)) (h1 : rngB 1800 (M.1 2 0).toInt y = true) (h2 : ¬ M.1 2 1 = Int32.ofNat 24) (h3 : ¬ fstS (M.1 2) (M.1 1) = nM1) : dN e (d + 6) 294 [.ref b, .int (Int32.ofNat k), .int y] (ov TM 8 b M m) = rI (Int32.ofNat (nbS (M.1 2))) (ov TM 8 b (uA (kpM (mT M 0) c) 2 (newS (M.1 2) (Int32.ofNat k) y (fstS (M.1 2) (M.1 1)))) m) := by
  have h9 : dN e (d + 5) 165 [.long y.toInt64, .long 1800, .long (M.1 2 0).toInt64] (ov TM 8 b (mT M 0) m) = rI (bI (rngB 1800 (M.1 2 0).toInt64.toInt y)) (ov TM 8 b (mT M 0) m) := c_rng
  rw [Int32.toInt_toInt64, h1] at h9
  have g := c_fst (e := e) (d := d + 2) (b := b) (m := m) (M := mT M 0) W1 H
  simp (disch := omega) only [mT_n] at g
  have e2 : (kpM (mT M 0) c).1 2 = M.1 2 := by rw [kp_n (by omega) (by omega), mT_n (by omega)]
  have e1 : (kpM (mT M 0) c).1 1 = M.1 1 := by rw [kp_n (by omega) (by omega), mT_n (by omega)]
  have g2 := c_fst (e := e) (d := d + 2) (b := b) (m := m) (M := kpM (mT M 0) c) (by rw [e2]; exact W1) (by rw [e1]; exact H)
  rw [e2, e1] at g2
  have hnb : nbS (M.1 2) < 24 := by
    obtain ⟨v, v1, v2, -, v4⟩ := W1.ex
    rw [v1] at h2
    show nN (M.1 2 1) < 24
    rw [v2]
    rcases Nat.lt_or_ge v 24 with z | z
    · exact z
    · have : v = 24 := by omega
      rw [this] at h2
      exact absurd rfl h2
  have g3 := c_new (e := e) (d := d + 3) (b := b) (m := m) (M := kpM (mT M 0) c) (c := Int32.ofNat k) (y := y) (q := fstS (M.1 2) (M.1 1)) he (by rw [e2]; exact W1) (by rw [e2]; exact hnb)
  rw [e2] at g3
  refine en294 M_c0 fun t ht => ?_
  obtain ⟨u, rfl⟩ := fu 9 ht rfl
  rw [q294_0]; (try simp -implicitDefEqProofs (disch := omega) only [↓reduceIte, c_cl0 he hl hn hm hk, h9, h2, g, h3, c_ref_f, c_kp he hc8 hc, g2, g3, bd_s, kI_r, kV_r, kL_r, rZ_1, rZ_0, rZ_b, rI_ite, bI_ite, ite_tf, ite_ft, bI0, bI1, bf_ite, nAdd, nMul, nLt, nEq, nEqM, nMEq, nMLt, nLtM, nMLt0, if_true, if_false, Nat.reduceAdd, Nat.reduceMul, Nat.zero_add, Nat.add_zero, decide_eq_true_eq, decide_true, decide_false, Nat.reduceEqDiff, Nat.reduceLT, Nat.reduceLeDiff, eq_self, Bool.false_eq_true, Bool.true_eq_false, Bool.not_eq_false', Bool.not_eq_true', ite_not, uA_s, uA_n, uA_uA, M_r0_2, M_r0_3, M_a1, M_a2, M_g0_0, M_g0_1, M_a3, M_a4, M_r0_4, M_r0_6, M_g0_5, mT_n, mT_00, mT_0k, mT_up, mT_mk, mT_mT, kp_n, kp_0, dnf, Bool.not_false, Bool.not_true]); rw [q294_2]; (try simp -implicitDefEqProofs (disch := omega) only [↓reduceIte, c_cl0 he hl hn hm hk, h9, h2, g, h3, c_ref_f, c_kp he hc8 hc, g2, g3, bd_s, kI_r, kV_r, kL_r, rZ_1, rZ_0, rZ_b, rI_ite, bI_ite, ite_tf, ite_ft, bI0, bI1, bf_ite, nAdd, nMul, nLt, nEq, nEqM, nMEq, nMLt, nLtM, nMLt0, if_true, if_false, Nat.reduceAdd, Nat.reduceMul, Nat.zero_add, Nat.add_zero, decide_eq_true_eq, decide_true, decide_false, Nat.reduceEqDiff, Nat.reduceLT, Nat.reduceLeDiff, eq_self, Bool.false_eq_true, Bool.true_eq_false, Bool.not_eq_false', Bool.not_eq_true', ite_not, uA_s, uA_n, uA_uA, M_r0_2, M_r0_3, M_a1, M_a2, M_g0_0, M_g0_1, M_a3, M_a4, M_r0_4, M_r0_6, M_g0_5, mT_n, mT_00, mT_0k, mT_up, mT_mk, mT_mT, kp_n, kp_0, dnf, Bool.not_false, Bool.not_true]); rw [q294_3]; (try simp -implicitDefEqProofs (disch := omega) only [↓reduceIte, c_cl0 he hl hn hm hk, h9, h2, g, h3, c_ref_f, c_kp he hc8 hc, g2, g3, bd_s, kI_r, kV_r, kL_r, rZ_1, rZ_0, rZ_b, rI_ite, bI_ite, ite_tf, ite_ft, bI0, bI1, bf_ite, nAdd, nMul, nLt, nEq, nEqM, nMEq, nMLt, nLtM, nMLt0, if_true, if_false, Nat.reduceAdd, Nat.reduceMul, Nat.zero_add, Nat.add_zero, decide_eq_true_eq, decide_true, decide_false, Nat.reduceEqDiff, Nat.reduceLT, Nat.reduceLeDiff, eq_self, Bool.false_eq_true, Bool.true_eq_false, Bool.not_eq_false', Bool.not_eq_true', ite_not, uA_s, uA_n, uA_uA, M_r0_2, M_r0_3, M_a1, M_a2, M_g0_0, M_g0_1, M_a3, M_a4, M_r0_4, M_r0_6, M_g0_5, mT_n, mT_00, mT_0k, mT_up, mT_mk, mT_mT, kp_n, kp_0, dnf, Bool.not_false, Bool.not_true]); rw [q294_5]; (try simp -implicitDefEqProofs (disch := omega) only [↓reduceIte, c_cl0 he hl hn hm hk, h9, h2, g, h3, c_ref_f, c_kp he hc8 hc, g2, g3, bd_s, kI_r, kV_r, kL_r, rZ_1, rZ_0, rZ_b, rI_ite, bI_ite, ite_tf, ite_ft, bI0, bI1, bf_ite, nAdd, nMul, nLt, nEq, nEqM, nMEq, nMLt, nLtM, nMLt0, if_true, if_false, Nat.reduceAdd, Nat.reduceMul, Nat.zero_add, Nat.add_zero, decide_eq_true_eq, decide_true, decide_false, Nat.reduceEqDiff, Nat.reduceLT, Nat.reduceLeDiff, eq_self, Bool.false_eq_true, Bool.true_eq_false, Bool.not_eq_false', Bool.not_eq_true', ite_not, uA_s, uA_n, uA_uA, M_r0_2, M_r0_3, M_a1, M_a2, M_g0_0, M_g0_1, M_a3, M_a4, M_r0_4, M_r0_6, M_g0_5, mT_n, mT_00, mT_0k, mT_up, mT_mk, mT_mT, kp_n, kp_0, dnf, Bool.not_false, Bool.not_true])
theorem c_yr1 {x : Int32} (he : e.1 ≤ b) (hl : M.1 0 1 = Int32.ofNat 0) : dN e (d + 3) 276 [.ref b, .int x] (ov TM 8 b M m) = rI (bI true) (ov TM 8 b (mT M 1) m) := by
  refine en276 M_c0 fun t ht => ?_
  obtain ⟨u, rfl⟩ := fu 9 ht rfl
  simp -implicitDefEqProofs (disch := omega) only [↓reduceIte, q276_0, q276_1, q276_2, q276_3, q276_4, q276_5, c_nl1 he hl, bd_s, kI_r, kV_r, kL_r, rZ_1, rZ_0, rZ_b, rI_ite, bI_ite, ite_tf, ite_ft, bI0, bI1, bf_ite, nAdd, nMul, nLt, nEq, nEqM, nMEq, nMLt, nLtM, nMLt0, if_true, if_false, Nat.reduceAdd, Nat.reduceMul, Nat.zero_add, Nat.add_zero, decide_eq_true_eq, decide_true, decide_false, Nat.reduceEqDiff, Nat.reduceLT, Nat.reduceLeDiff, eq_self, Bool.false_eq_true, Bool.true_eq_false, Bool.not_eq_false', Bool.not_eq_true', ite_not, uA_s, uA_n, uA_uA, M_r0_2, M_r0_3, M_a1, M_a2, M_g0_0, M_g0_1, M_a3, M_a4, M_r0_4, M_r0_6, M_g0_5, mT_n, mT_00, mT_0k, mT_up, mT_mk, mT_mT, kp_n, kp_0, dnf, Bool.not_false, Bool.not_true]
theorem c_yr2 {x : Int32} (he : e.1 ≤ b) (hl : M.1 0 1 = Int32.ofNat 1) (hx : rngB 0 100 x = false) : dN e (d + 3) 276 [.ref b, .int x] (ov TM 8 b M m) = rI (bI true) (ov TM 8 b (mT M 2) m) := by
  have h9 : dN e (d + 2) 165 [.long x.toInt64, .long 0, .long 100] (ov TM 8 b (mT M 0) m) = rI (bI (rngB 0 100 x)) (ov TM 8 b (mT M 0) m) := c_rng
  rw [hx] at h9
  refine en276 M_c0 fun t ht => ?_
  obtain ⟨u, rfl⟩ := fu 9 ht rfl
  simp -implicitDefEqProofs (disch := omega) only [↓reduceIte, q276_0, q276_1, q276_2, q276_3, q276_4, q276_5, c_nl0 he hl, h9, c_ref_t he, bd_s, kI_r, kV_r, kL_r, rZ_1, rZ_0, rZ_b, rI_ite, bI_ite, ite_tf, ite_ft, bI0, bI1, bf_ite, nAdd, nMul, nLt, nEq, nEqM, nMEq, nMLt, nLtM, nMLt0, if_true, if_false, Nat.reduceAdd, Nat.reduceMul, Nat.zero_add, Nat.add_zero, decide_eq_true_eq, decide_true, decide_false, Nat.reduceEqDiff, Nat.reduceLT, Nat.reduceLeDiff, eq_self, Bool.false_eq_true, Bool.true_eq_false, Bool.not_eq_false', Bool.not_eq_true', ite_not, uA_s, uA_n, uA_uA, M_r0_2, M_r0_3, M_a1, M_a2, M_g0_0, M_g0_1, M_a3, M_a4, M_r0_4, M_r0_6, M_g0_5, mT_n, mT_00, mT_0k, mT_up, mT_mk, mT_mT, kp_n, kp_0, dnf, Bool.not_false, Bool.not_true]
theorem c_yr0 {n : Nat} (he : e.1 ≤ b) (hl : M.1 0 1 = Int32.ofNat 1) (hn : n ≤ 100) : dN e (d + 3) 276 [.ref b, .int (Int32.ofNat n)] (ov TM 8 b M m) = rI (bI false) (ov TM 8 b (mT M 0) m) := by
  have h9 : dN e (d + 2) 165 [.long (Int32.ofNat n).toInt64, .long 0, .long 100] (ov TM 8 b (mT M 0) m) = rI (bI (rngB 0 100 (Int32.ofNat n))) (ov TM 8 b (mT M 0) m) := c_rng
  rw [rng_n (lo := 0) (hi := 100) (n := n) (by omega) (by omega) (by omega)] at h9
  refine en276 M_c0 fun t ht => ?_
  obtain ⟨u, rfl⟩ := fu 9 ht rfl
  simp -implicitDefEqProofs (disch := omega) only [↓reduceIte, q276_0, q276_1, q276_2, q276_3, q276_4, q276_5, c_nl0 he hl, h9, c_ref_f, bd_s, kI_r, kV_r, kL_r, rZ_1, rZ_0, rZ_b, rI_ite, bI_ite, ite_tf, ite_ft, bI0, bI1, bf_ite, nAdd, nMul, nLt, nEq, nEqM, nMEq, nMLt, nLtM, nMLt0, if_true, if_false, Nat.reduceAdd, Nat.reduceMul, Nat.zero_add, Nat.add_zero, decide_eq_true_eq, decide_true, decide_false, Nat.reduceEqDiff, Nat.reduceLT, Nat.reduceLeDiff, eq_self, Bool.false_eq_true, Bool.true_eq_false, Bool.not_eq_false', Bool.not_eq_true', ite_not, uA_s, uA_n, uA_uA, M_r0_2, M_r0_3, M_a1, M_a2, M_g0_0, M_g0_1, M_a3, M_a4, M_r0_4, M_r0_6, M_g0_5, mT_n, mT_00, mT_0k, mT_up, mT_mk, mT_mT, kp_n, kp_0, dnf, Bool.not_false, Bool.not_true]
/-- laid aside and back: only the stores' last row is changed -/
def asM (M : bX) : bX := uA (mT M 0) 3 (dCp (M.1 2) (M.1 3) 0 3150 315)
def bkS (s t : sV) : sV := fun j => if j < 315 then s j else t j
theorem bk_is {s t f : sV} : dCp (dCp s f 0 3150 315) t 3150 0 315 = bkS s t := by
  funext j
  unfold dCp bkS
  by_cases h : j < 315
  · have e1 : 0 + (3150 + (j - 0) - 3150) = j := by omega
    rw [if_pos (by omega), if_pos (by omega), if_pos h, e1]
  · rw [if_neg (by omega), if_neg h]
def bkM (M : bX) (t : sV) : bX := uA (uA (mT M 0) 2 (bkS (M.1 2) t)) 3 (dCp (M.1 2) (M.1 3) 0 3150 315)
theorem c_bk {x : Int32} {t : sV} (he : e.1 ≤ b) : dN e (d + 2) 171 [.ref b, .int x] (ov TM 8 b (uA (asM M) 2 t) m) = rI x (ov TM 8 b (bkM M t) m) := by
  rw [c_back he]
  congr 1
  unfold asM bkM
  simp (disch := omega) only [uA_s, uA_n, uA_uA, bk_is]
  rw [uA_comm (show 2 < 3 by omega)]
theorem m278_1 {x : Int32} (he : e.1 ≤ b) (hl : M.1 0 1 = Int32.ofNat 0) : dN e (d + 8) 278 [.ref b, .int x] (ov TM 8 b M m) = rI (Int32.ofNat 0) (ov TM 8 b (mT M 1) m) := by
  refine en278 M_c0 fun t ht => ?_
  obtain ⟨u, rfl⟩ := fu 9 ht rfl
  simp -implicitDefEqProofs (disch := omega) only [↓reduceIte, q278_0, q278_1, c_yr1 he hl, bd_s, kI_r, kV_r, kL_r, rZ_1, rZ_0, rZ_b, rI_ite, bI_ite, ite_tf, ite_ft, bI0, bI1, bf_ite, nAdd, nMul, nLt, nEq, nEqM, nMEq, nMLt, nLtM, nMLt0, if_true, if_false, Nat.reduceAdd, Nat.reduceMul, Nat.zero_add, Nat.add_zero, decide_eq_true_eq, decide_true, decide_false, Nat.reduceEqDiff, Nat.reduceLT, Nat.reduceLeDiff, eq_self, Bool.false_eq_true, Bool.true_eq_false, Bool.not_eq_false', Bool.not_eq_true', ite_not, uA_s, uA_n, uA_uA, M_r0_2, M_r0_3, M_a1, M_a2, M_g0_0, M_g0_1, M_a3, M_a4, M_r0_4, M_r0_6, M_g0_5, mT_n, mT_00, mT_0k, mT_up, mT_mk, mT_mT, kp_n, kp_0, dnf, Bool.not_false, Bool.not_true]
theorem m278_2 {x : Int32} (he : e.1 ≤ b) (hl : M.1 0 1 = Int32.ofNat 1) (hx : rngB 0 100 x = false) : dN e (d + 8) 278 [.ref b, .int x] (ov TM 8 b M m) = rI (Int32.ofNat 0) (ov TM 8 b (mT M 2) m) := by
  refine en278 M_c0 fun t ht => ?_
  obtain ⟨u, rfl⟩ := fu 9 ht rfl
  simp -implicitDefEqProofs (disch := omega) only [↓reduceIte, q278_0, q278_1, c_yr2 he hl hx, bd_s, kI_r, kV_r, kL_r, rZ_1, rZ_0, rZ_b, rI_ite, bI_ite, ite_tf, ite_ft, bI0, bI1, bf_ite, nAdd, nMul, nLt, nEq, nEqM, nMEq, nMLt, nLtM, nMLt0, if_true, if_false, Nat.reduceAdd, Nat.reduceMul, Nat.zero_add, Nat.add_zero, decide_eq_true_eq, decide_true, decide_false, Nat.reduceEqDiff, Nat.reduceLT, Nat.reduceLeDiff, eq_self, Bool.false_eq_true, Bool.true_eq_false, Bool.not_eq_false', Bool.not_eq_true', ite_not, uA_s, uA_n, uA_uA, M_r0_2, M_r0_3, M_a1, M_a2, M_g0_0, M_g0_1, M_a3, M_a4, M_r0_4, M_r0_6, M_g0_5, mT_n, mT_00, mT_0k, mT_up, mT_mk, mT_mT, kp_n, kp_0, dnf, Bool.not_false, Bool.not_true]
theorem as_W (W : WS Y (M.1 1) (M.1 2)) : WS Y ((asM M).1 1) ((asM M).1 2) := by
  unfold asM
  rw [uA_n (by omega), uA_n (by omega), mT_n (by omega), mT_n (by omega)]
  exact W
theorem as_1 : (asM M).1 1 = M.1 1 := by unfold asM; rw [uA_n (by omega), mT_n (by omega)]
theorem as_2 : (asM M).1 2 = M.1 2 := by unfold asM; rw [uA_n (by omega), mT_n (by omega)]
theorem c_asd (he : e.1 ≤ b) : dN e (d + 2) 170 [.ref b] (ov TM 8 b (mT M 0) m) = some (.inl none, ov TM 8 b (asM M) m) := by
  rw [c_aside he]
  unfold asM
  rw [mT_n (by omega), mT_n (by omega)]
theorem m278_0 {n : Nat} (he : e.1 ≤ b) (hl : M.1 0 1 = Int32.ofNat 1) (hn : n ≤ 100) (W : WS Y (M.1 1) (M.1 2)) (hY : Y + 100 ≤ 1000000) : dN e (d + 8) 278 [.ref b, .int (Int32.ofNat n)] (ov TM 8 b M m) = rI (Int32.ofNat (desN (yrsS (M.1 1) n (M.1 2)) (M.1 1))) (ov TM 8 b (bkM M (yrsS (M.1 1) n (M.1 2))) m) := by
  have g1 := c_years (e := e) (d := d + 1) (b := b) (m := m) (M := asM M) (n := n) he (as_W W) hn hY
  rw [as_1, as_2] at g1
  have g2 := c_des (e := e) (d := d + 3) (b := b) (m := m) (Y := Y + n) (M := uA (asM M) 2 (yrsS (M.1 1) n (M.1 2))) (by rw [uA_s, uA_n (by omega), as_1]; exact WS_yrs W (by omega))
  rw [uA_s, uA_n (by omega), as_1] at g2
  refine en278 M_c0 fun t ht => ?_
  obtain ⟨u, rfl⟩ := fu 9 ht rfl
  simp -implicitDefEqProofs (disch := omega) only [↓reduceIte, q278_0, q278_1, c_yr0 he hl hn, c_asd he, g1, g2, c_bk he, bd_s, kI_r, kV_r, kL_r, rZ_1, rZ_0, rZ_b, rI_ite, bI_ite, ite_tf, ite_ft, bI0, bI1, bf_ite, nAdd, nMul, nLt, nEq, nEqM, nMEq, nMLt, nLtM, nMLt0, if_true, if_false, Nat.reduceAdd, Nat.reduceMul, Nat.zero_add, Nat.add_zero, decide_eq_true_eq, decide_true, decide_false, Nat.reduceEqDiff, Nat.reduceLT, Nat.reduceLeDiff, eq_self, Bool.false_eq_true, Bool.true_eq_false, Bool.not_eq_false', Bool.not_eq_true', ite_not, uA_s, uA_n, uA_uA, M_r0_2, M_r0_3, M_a1, M_a2, M_g0_0, M_g0_1, M_a3, M_a4, M_r0_4, M_r0_6, M_g0_5, mT_n, mT_00, mT_0k, mT_up, mT_mk, mT_mT, kp_n, kp_0, dnf, Bool.not_false, Bool.not_true]
end
end

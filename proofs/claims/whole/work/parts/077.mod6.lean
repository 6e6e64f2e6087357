/-! ===== the reference's calls that change the archive (printed by wip/whole/mod6.py) ===== -/
noncomputable section
theorem stk_lo {x : Int32} {s : sV} : ∀ k, k ≤ 24 → (upF (stkF x) k (0, s)).1 ≤ k ∧ ∀ j, j < 3 ∨ 27 ≤ j → (upF (stkF x) k (0, s)).2 j = s j := by
  intro k
  induction k with
  | zero => intro _; exact ⟨Nat.le_refl _, fun _ _ => rfl⟩
  | succ k ih =>
    intro hk
    obtain ⟨i1, i2⟩ := ih (by omega)
    rw [upF_s]
    generalize upF (stkF x) k (0, s) = P at *
    unfold stkF
    split
    · exact ⟨by omega, i2⟩
    · refine ⟨by show P.1 + 1 ≤ _; omega, fun j hj => ?_⟩
      show wr P.2 (3 + P.1) (P.2 (3 + k)) j = _
      rw [wr_n (by omega)]
      exact i2 j hj
theorem kp_n {M : bX} {n i : Nat} (h0 : i ≠ 0) (h3 : i ≠ 3) : (kpM M n).1 i = M.1 i := by
  unfold kpM
  rw [uA_n h3, uA_n h0]
theorem kp_0 {M : bX} {n k : Nat} (h : k ≠ 5) : (kpM M n).1 0 k = M.1 0 k := by
  unfold kpM
  rw [uA_n (by omega), uA_s, wr_n h]
section
variable {e : dEnv} {d b : Nat} {M : bX} {m : dMem}
theorem c_stk {k : Nat} {y : Int32} (he : e.1 ≤ b) (hk : k < 24) (W : okI 0 24 (M.1 2 2)) : dN e (d + 2) 187 [.ref b, .int (Int32.ofNat k), .int y] (ov TM 8 b M m) = some (.inl none, (ov TM 8 b (uA M 2 (stkS (M.1 2) k y)) m)) := by
  obtain ⟨n, hb, hn0, -, hn⟩ := W.ex
  have hl : nlS (M.1 2) = n := hn0
  unfold stkS
  rw [hl]
  refine en187 M_c0 fun t ht => ?_
  obtain ⟨u, rfl⟩ := fu 1 ht rfl
  rw [q187_0]
  have e0 : uA M 2 (upF (stkF (Int32.ofNat k)) 0 (0, M.1 2)).2 = M := uA_self M 2
  suffices hh : runL e (dN e (d + 1)) 187 u 1 [some (.ref b), some (.int (Int32.ofNat k)), some (.int y), some (.int (Int32.ofNat 0)), some (.int (Int32.ofNat 0))] [] (ov TM 8 b (uA M 2 (upF (stkF (Int32.ofNat k)) 0 (0, M.1 2)).2) m) = some (.inl none, ov TM 8 b (uA M 2 (lay (wr (upF (stkF (Int32.ofNat k)) n (0, M.1 2)).2 2 (Int32.ofNat (upF (stkF (Int32.ofNat k)) n (0, M.1 2)).1)) k 2 (bx (wr (upF (stkF (Int32.ofNat k)) n (0, M.1 2)).2 2 (Int32.ofNat (upF (stkF (Int32.ofNat k)) n (0, M.1 2)).1)) k 2 + y))) m) by
    rw [e0] at hh
    exact hh
  refine lp_up2 (c := 2) (n := n) (G := fun t i => runL e (dN e (d + 1)) 187 t 1 [some (.ref b), some (.int (Int32.ofNat k)), some (.int y), some (.int (Int32.ofNat (upF (stkF (Int32.ofNat k)) i (0, M.1 2)).1)), some (.int (Int32.ofNat i))] [] (ov TM 8 b (uA M 2 (upF (stkF (Int32.ofNat k)) i (0, M.1 2)).2) m)) (fun i hi => ⟨2, by omega, fun t => ?_⟩) (fun t => ?_) u (by omega)
  · obtain ⟨i1, i2⟩ := stk_lo (x := Int32.ofNat k) (s := M.1 2) i (by omega)
    have b2 := (i2 2 (by omega)).trans hb
    rw [upF_s]
    generalize upF (stkF (Int32.ofNat k)) i (0, M.1 2) = P at *
    unfold stkF
    by_cases h : P.2 (3 + i) = Int32.ofNat k
    · rw [if_pos h]
      simp -implicitDefEqProofs (disch := omega) only [↓reduceIte, q187_1, q187_2, b2, hi, h, bd_s, kI_r, kV_r, kL_r, rZ_1, rZ_0, rZ_b, rI_ite, bI_ite, ite_tf, ite_ft, bI0, bI1, bf_ite, nAdd, nMul, nLt, nEq, nEqM, nMEq, nMLt, nLtM, nMLt0, if_true, if_false, Nat.reduceAdd, Nat.reduceMul, Nat.zero_add, Nat.add_zero, decide_eq_true_eq, decide_true, decide_false, Nat.reduceEqDiff, Nat.reduceLT, Nat.reduceLeDiff, eq_self, Bool.false_eq_true, Bool.true_eq_false, Bool.not_eq_false', Bool.not_eq_true', ite_not, uA_s, uA_n, uA_uA, M_r0_2, M_r0_3, M_a1, M_a2, M_g0_0, M_g0_1, M_a3, M_a4, M_r0_4, M_r0_6, M_g0_5, mT_n, mT_00, mT_0k, mT_up, mT_mk, mT_mT, dnf, Bool.not_false, Bool.not_true]
    · rw [if_neg h]
      simp -implicitDefEqProofs (disch := omega) only [↓reduceIte, q187_1, q187_2, b2, hi, h, M_s2 he, bd_s, kI_r, kV_r, kL_r, rZ_1, rZ_0, rZ_b, rI_ite, bI_ite, ite_tf, ite_ft, bI0, bI1, bf_ite, nAdd, nMul, nLt, nEq, nEqM, nMEq, nMLt, nLtM, nMLt0, if_true, if_false, Nat.reduceAdd, Nat.reduceMul, Nat.zero_add, Nat.add_zero, decide_eq_true_eq, decide_true, decide_false, Nat.reduceEqDiff, Nat.reduceLT, Nat.reduceLeDiff, eq_self, Bool.false_eq_true, Bool.true_eq_false, Bool.not_eq_false', Bool.not_eq_true', ite_not, uA_s, uA_n, uA_uA, M_r0_2, M_r0_3, M_a1, M_a2, M_g0_0, M_g0_1, M_a3, M_a4, M_r0_4, M_r0_6, M_g0_5, mT_n, mT_00, mT_0k, mT_up, mT_mk, mT_mT, dnf, Bool.not_false, Bool.not_true]
  · obtain ⟨i1, i2⟩ := stk_lo (x := Int32.ofNat k) (s := M.1 2) n (by omega)
    have b2 := (i2 2 (by omega)).trans hb
    generalize upF (stkF (Int32.ofNat k)) n (0, M.1 2) = P at *
    rw [q187_1]; (try simp -implicitDefEqProofs (disch := omega) only [↓reduceIte, b2, Nat.lt_irrefl, M_s2 he, c_box, c_lays he hk, bx_wr, bd_s, kI_r, kV_r, kL_r, rZ_1, rZ_0, rZ_b, rI_ite, bI_ite, ite_tf, ite_ft, bI0, bI1, bf_ite, nAdd, nMul, nLt, nEq, nEqM, nMEq, nMLt, nLtM, nMLt0, if_true, if_false, Nat.reduceAdd, Nat.reduceMul, Nat.zero_add, Nat.add_zero, decide_eq_true_eq, decide_true, decide_false, Nat.reduceEqDiff, Nat.reduceLT, Nat.reduceLeDiff, eq_self, Bool.false_eq_true, Bool.true_eq_false, Bool.not_eq_false', Bool.not_eq_true', ite_not, uA_s, uA_n, uA_uA, M_r0_2, M_r0_3, M_a1, M_a2, M_g0_0, M_g0_1, M_a3, M_a4, M_r0_4, M_r0_6, M_g0_5, mT_n, mT_00, mT_0k, mT_up, mT_mk, mT_mT, dnf, Bool.not_false, Bool.not_true]); rw [q187_3]; (try simp -implicitDefEqProofs (disch := omega) only [↓reduceIte, b2, Nat.lt_irrefl, M_s2 he, c_box, c_lays he hk, bx_wr, bd_s, kI_r, kV_r, kL_r, rZ_1, rZ_0, rZ_b, rI_ite, bI_ite, ite_tf, ite_ft, bI0, bI1, bf_ite, nAdd, nMul, nLt, nEq, nEqM, nMEq, nMLt, nLtM, nMLt0, if_true, if_false, Nat.reduceAdd, Nat.reduceMul, Nat.zero_add, Nat.add_zero, decide_eq_true_eq, decide_true, decide_false, Nat.reduceEqDiff, Nat.reduceLT, Nat.reduceLeDiff, eq_self, Bool.false_eq_true, Bool.true_eq_false, Bool.not_eq_false', Bool.not_eq_true', ite_not, uA_s, uA_n, uA_uA, M_r0_2, M_r0_3, M_a1, M_a2, M_g0_0, M_g0_1, M_a3, M_a4, M_r0_4, M_r0_6, M_g0_5, mT_n, mT_00, mT_0k, mT_up, mT_mk, mT_mT, dnf, Bool.not_false, Bool.not_true])
theorem c_new {c y q : Int32} (he : e.1 ≤ b) (W : okI 0 24 (M.1 2 1)) (hn : nbS (M.1 2) < 24) : dN e (d + 2) 178 [.ref b, .int c, .int y, .int q] (ov TM 8 b M m) = rI (Int32.ofNat (nbS (M.1 2))) (ov TM 8 b (uA M 2 (newS (M.1 2) c y q)) m) := by
  obtain ⟨n, hb, hn0, -, -⟩ := W.ex
  have hl : nbS (M.1 2) = n := hn0
  unfold newS
  rw [hl] at hn ⊢
  refine en178 M_c0 fun t ht => ?_
  obtain ⟨u, rfl⟩ := fu 1 ht rfl
  simp -implicitDefEqProofs (disch := omega) only [↓reduceIte, q178_0, hb, bd_s, kI_r, kV_r, kL_r, rZ_1, rZ_0, rZ_b, rI_ite, bI_ite, ite_tf, ite_ft, bI0, bI1, bf_ite, nAdd, nMul, nLt, nEq, nEqM, nMEq, nMLt, nLtM, nMLt0, if_true, if_false, Nat.reduceAdd, Nat.reduceMul, Nat.zero_add, Nat.add_zero, decide_eq_true_eq, decide_true, decide_false, Nat.reduceEqDiff, Nat.reduceLT, Nat.reduceLeDiff, eq_self, Bool.false_eq_true, Bool.true_eq_false, Bool.not_eq_false', Bool.not_eq_true', ite_not, uA_s, uA_n, uA_uA, M_r0_2, M_r0_3, M_a1, M_a2, M_g0_0, M_g0_1, M_a3, M_a4, M_r0_4, M_r0_6, M_g0_5, mT_n, mT_00, mT_0k, mT_up, mT_mk, mT_mT, dnf, Bool.not_false, Bool.not_true]
  have e0 : uA M 2 (upF (fun f s => lay s n f (Int32.ofNat 0)) 0 (M.1 2)) = M := uA_self M 2
  suffices hh : runL e (dN e (d + 1)) 178 u 1 [some (.ref b), some (.int c), some (.int y), some (.int q), some (.int (Int32.ofNat n)), some (.int (Int32.ofNat 0))] [] (ov TM 8 b (uA M 2 (upF (fun f s => lay s n f (Int32.ofNat 0)) 0 (M.1 2))) m) = rI (Int32.ofNat n) (ov TM 8 b (uA M 2 (wr (lay (lay (lay (lay (upF (fun f s => lay s n f (Int32.ofNat 0)) 12 (M.1 2)) n 0 c) n 1 y) n 4 q) n 5 nM1) 1 (Int32.ofNat (n + 1)))) m) by
    rw [e0] at hh
    exact hh
  refine lp_up2 (c := 2) (n := 12) (G := fun t f => runL e (dN e (d + 1)) 178 t 1 [some (.ref b), some (.int c), some (.int y), some (.int q), some (.int (Int32.ofNat n)), some (.int (Int32.ofNat f))] [] (ov TM 8 b (uA M 2 (upF (fun f s => lay s n f (Int32.ofNat 0)) f (M.1 2))) m)) (fun f hf => ⟨1, by omega, fun t => ?_⟩) (fun t => ?_) u (by omega)
  · rw [upF_s]
    simp -implicitDefEqProofs (disch := omega) only [↓reduceIte, q178_1, c_lays he, hf, bd_s, kI_r, kV_r, kL_r, rZ_1, rZ_0, rZ_b, rI_ite, bI_ite, ite_tf, ite_ft, bI0, bI1, bf_ite, nAdd, nMul, nLt, nEq, nEqM, nMEq, nMLt, nLtM, nMLt0, if_true, if_false, Nat.reduceAdd, Nat.reduceMul, Nat.zero_add, Nat.add_zero, decide_eq_true_eq, decide_true, decide_false, Nat.reduceEqDiff, Nat.reduceLT, Nat.reduceLeDiff, eq_self, Bool.false_eq_true, Bool.true_eq_false, Bool.not_eq_false', Bool.not_eq_true', ite_not, uA_s, uA_n, uA_uA, M_r0_2, M_r0_3, M_a1, M_a2, M_g0_0, M_g0_1, M_a3, M_a4, M_r0_4, M_r0_6, M_g0_5, mT_n, mT_00, mT_0k, mT_up, mT_mk, mT_mT, dnf, Bool.not_false, Bool.not_true]
  · have hz := zer_lo (s := M.1 2) (k := n) (j := 1) (by omega) (n := 12)
    rw [hb] at hz
    generalize upF (fun f s => lay s n f (Int32.ofNat 0)) 12 (M.1 2) = P at *
    rw [q178_1]; (try simp -implicitDefEqProofs (disch := omega) only [↓reduceIte, c_lays he, Nat.lt_irrefl, hz, lay_lo, M_s2 he, bd_s, kI_r, kV_r, kL_r, rZ_1, rZ_0, rZ_b, rI_ite, bI_ite, ite_tf, ite_ft, bI0, bI1, bf_ite, nAdd, nMul, nLt, nEq, nEqM, nMEq, nMLt, nLtM, nMLt0, if_true, if_false, Nat.reduceAdd, Nat.reduceMul, Nat.zero_add, Nat.add_zero, decide_eq_true_eq, decide_true, decide_false, Nat.reduceEqDiff, Nat.reduceLT, Nat.reduceLeDiff, eq_self, Bool.false_eq_true, Bool.true_eq_false, Bool.not_eq_false', Bool.not_eq_true', ite_not, uA_s, uA_n, uA_uA, M_r0_2, M_r0_3, M_a1, M_a2, M_g0_0, M_g0_1, M_a3, M_a4, M_r0_4, M_r0_6, M_g0_5, mT_n, mT_00, mT_0k, mT_up, mT_mk, mT_mT, dnf, Bool.not_false, Bool.not_true]); rw [q178_2]; (try simp -implicitDefEqProofs (disch := omega) only [↓reduceIte, c_lays he, Nat.lt_irrefl, hz, lay_lo, M_s2 he, bd_s, kI_r, kV_r, kL_r, rZ_1, rZ_0, rZ_b, rI_ite, bI_ite, ite_tf, ite_ft, bI0, bI1, bf_ite, nAdd, nMul, nLt, nEq, nEqM, nMEq, nMLt, nLtM, nMLt0, if_true, if_false, Nat.reduceAdd, Nat.reduceMul, Nat.zero_add, Nat.add_zero, decide_eq_true_eq, decide_true, decide_false, Nat.reduceEqDiff, Nat.reduceLT, Nat.reduceLeDiff, eq_self, Bool.false_eq_true, Bool.true_eq_false, Bool.not_eq_false', Bool.not_eq_true', ite_not, uA_s, uA_n, uA_uA, M_r0_2, M_r0_3, M_a1, M_a2, M_g0_0, M_g0_1, M_a3, M_a4, M_r0_4, M_r0_6, M_g0_5, mT_n, mT_00, mT_0k, mT_up, mT_mk, mT_mT, dnf, Bool.not_false, Bool.not_true])
theorem c_bt1 {x y : Int32} (he : e.1 ≤ b) (hl : M.1 0 1 = Int32.ofNat 0) : dN e (d + 4) 272 [.ref b, .int x, .int y] (ov TM 8 b M m) = rI (bI true) (ov TM 8 b (mT M 1) m) := by
  refine en272 M_c0 fun t ht => ?_
  obtain ⟨u, rfl⟩ := fu 9 ht rfl
  simp -implicitDefEqProofs (disch := omega) only [↓reduceIte, q272_0, q272_1, q272_2, q272_3, q272_4, q272_5, c_rd1 he hl, bd_s, kI_r, kV_r, kL_r, rZ_1, rZ_0, rZ_b, rI_ite, bI_ite, ite_tf, ite_ft, bI0, bI1, bf_ite, nAdd, nMul, nLt, nEq, nEqM, nMEq, nMLt, nLtM, nMLt0, if_true, if_false, Nat.reduceAdd, Nat.reduceMul, Nat.zero_add, Nat.add_zero, decide_eq_true_eq, decide_true, decide_false, Nat.reduceEqDiff, Nat.reduceLT, Nat.reduceLeDiff, eq_self, Bool.false_eq_true, Bool.true_eq_false, Bool.not_eq_false', Bool.not_eq_true', ite_not, uA_s, uA_n, uA_uA, M_r0_2, M_r0_3, M_a1, M_a2, M_g0_0, M_g0_1, M_a3, M_a4, M_r0_4, M_r0_6, M_g0_5, mT_n, mT_00, mT_0k, mT_up, mT_mk, mT_mT, dnf, Bool.not_false, Bool.not_true]
theorem c_bt2 {x y : Int32} {r n : Nat} (he : e.1 ≤ b) (hl : M.1 0 1 = Int32.ofNat 1) (hr : M.1 1 3 = Int32.ofNat r) (hr6 : r ≤ 6) (hn : M.1 2 1 = Int32.ofNat n) (hm : n ≤ 24) (hx : (rngB 0 ((r : Int) - 1) x && rngB 0 ((n : Int) - 1) y) = false) : dN e (d + 4) 272 [.ref b, .int x, .int y] (ov TM 8 b M m) = rI (bI true) (ov TM 8 b (mT M 2) m) := by
  cases h1 : rngB 0 ((r : Int) - 1) x with
  | false =>
    refine en272 M_c0 fun t ht => ?_
    obtain ⟨u, rfl⟩ := fu 9 ht rfl
    simp -implicitDefEqProofs (disch := omega) only [↓reduceIte, q272_0, q272_1, q272_2, q272_3, q272_4, q272_5, c_rd2 he hl hr hr6 h1, bd_s, kI_r, kV_r, kL_r, rZ_1, rZ_0, rZ_b, rI_ite, bI_ite, ite_tf, ite_ft, bI0, bI1, bf_ite, nAdd, nMul, nLt, nEq, nEqM, nMEq, nMLt, nLtM, nMLt0, if_true, if_false, Nat.reduceAdd, Nat.reduceMul, Nat.zero_add, Nat.add_zero, decide_eq_true_eq, decide_true, decide_false, Nat.reduceEqDiff, Nat.reduceLT, Nat.reduceLeDiff, eq_self, Bool.false_eq_true, Bool.true_eq_false, Bool.not_eq_false', Bool.not_eq_true', ite_not, uA_s, uA_n, uA_uA, M_r0_2, M_r0_3, M_a1, M_a2, M_g0_0, M_g0_1, M_a3, M_a4, M_r0_4, M_r0_6, M_g0_5, mT_n, mT_00, mT_0k, mT_up, mT_mk, mT_mT, dnf, Bool.not_false, Bool.not_true]
  | true =>
    rw [h1, Bool.true_and] at hx
    obtain ⟨k, hk, rfl⟩ := rng_t h1
    have h9 := c_rngN (e := e) (d := d + 2) (m := (ov TM 8 b (mT M 0) m)) (x := y) (show n ≤ 100000 by omega)
    rw [hx] at h9
    refine en272 M_c0 fun t ht => ?_
    obtain ⟨u, rfl⟩ := fu 9 ht rfl
    simp -implicitDefEqProofs (disch := omega) only [↓reduceIte, q272_0, q272_1, q272_2, q272_3, q272_4, q272_5, c_rd0 he hl hr hr6 hk, hn, h9, c_ref_t he, bd_s, kI_r, kV_r, kL_r, rZ_1, rZ_0, rZ_b, rI_ite, bI_ite, ite_tf, ite_ft, bI0, bI1, bf_ite, nAdd, nMul, nLt, nEq, nEqM, nMEq, nMLt, nLtM, nMLt0, if_true, if_false, Nat.reduceAdd, Nat.reduceMul, Nat.zero_add, Nat.add_zero, decide_eq_true_eq, decide_true, decide_false, Nat.reduceEqDiff, Nat.reduceLT, Nat.reduceLeDiff, eq_self, Bool.false_eq_true, Bool.true_eq_false, Bool.not_eq_false', Bool.not_eq_true', ite_not, uA_s, uA_n, uA_uA, M_r0_2, M_r0_3, M_a1, M_a2, M_g0_0, M_g0_1, M_a3, M_a4, M_r0_4, M_r0_6, M_g0_5, mT_n, mT_00, mT_0k, mT_up, mT_mk, mT_mT, dnf, Bool.not_false, Bool.not_true]
theorem c_bt0 {j k r n : Nat} (he : e.1 ≤ b) (hl : M.1 0 1 = Int32.ofNat 1) (hr : M.1 1 3 = Int32.ofNat r) (hr6 : r ≤ 6) (hn : M.1 2 1 = Int32.ofNat n) (hm : n ≤ 24) (hj : j < r) (hk : k < n) : dN e (d + 4) 272 [.ref b, .int (Int32.ofNat j), .int (Int32.ofNat k)] (ov TM 8 b M m) = rI (bI false) (ov TM 8 b (mT M 0) m) := by
  have h9 := c_rngN (e := e) (d := d + 2) (m := (ov TM 8 b (mT M 0) m)) (x := Int32.ofNat k) (show n ≤ 100000 by omega)
  rw [rng_k hk (by omega)] at h9
  refine en272 M_c0 fun t ht => ?_
  obtain ⟨u, rfl⟩ := fu 9 ht rfl
  simp -implicitDefEqProofs (disch := omega) only [↓reduceIte, q272_0, q272_1, q272_2, q272_3, q272_4, q272_5, c_rd0 he hl hr hr6 hj, hn, h9, c_ref_f, bd_s, kI_r, kV_r, kL_r, rZ_1, rZ_0, rZ_b, rI_ite, bI_ite, ite_tf, ite_ft, bI0, bI1, bf_ite, nAdd, nMul, nLt, nEq, nEqM, nMEq, nMLt, nLtM, nMLt0, if_true, if_false, Nat.reduceAdd, Nat.reduceMul, Nat.zero_add, Nat.add_zero, decide_eq_true_eq, decide_true, decide_false, Nat.reduceEqDiff, Nat.reduceLT, Nat.reduceLeDiff, eq_self, Bool.false_eq_true, Bool.true_eq_false, Bool.not_eq_false', Bool.not_eq_true', ite_not, uA_s, uA_n, uA_uA, M_r0_2, M_r0_3, M_a1, M_a2, M_g0_0, M_g0_1, M_a3, M_a4, M_r0_4, M_r0_6, M_g0_5, mT_n, mT_00, mT_0k, mT_up, mT_mk, mT_mT, dnf, Bool.not_false, Bool.not_true]
theorem m273_1 {x y : Int32} (he : e.1 ≤ b) (hl : M.1 0 1 = Int32.ofNat 0) : dN e (d + 5) 273 [.ref b, .int x, .int y] (ov TM 8 b M m) = rI (Int32.ofNat 0) (ov TM 8 b (mT M 1) m) := by
  refine en273 M_c0 fun t ht => ?_
  obtain ⟨u, rfl⟩ := fu 9 ht rfl
  simp -implicitDefEqProofs (disch := omega) only [↓reduceIte, q273_0, q273_1, q273_2, c_bt1 he hl, bd_s, kI_r, kV_r, kL_r, rZ_1, rZ_0, rZ_b, rI_ite, bI_ite, ite_tf, ite_ft, bI0, bI1, bf_ite, nAdd, nMul, nLt, nEq, nEqM, nMEq, nMLt, nLtM, nMLt0, if_true, if_false, Nat.reduceAdd, Nat.reduceMul, Nat.zero_add, Nat.add_zero, decide_eq_true_eq, decide_true, decide_false, Nat.reduceEqDiff, Nat.reduceLT, Nat.reduceLeDiff, eq_self, Bool.false_eq_true, Bool.true_eq_false, Bool.not_eq_false', Bool.not_eq_true', ite_not, uA_s, uA_n, uA_uA, M_r0_2, M_r0_3, M_a1, M_a2, M_g0_0, M_g0_1, M_a3, M_a4, M_r0_4, M_r0_6, M_g0_5, mT_n, mT_00, mT_0k, mT_up, mT_mk, mT_mT, dnf, Bool.not_false, Bool.not_true]
theorem m273_2 {x y : Int32} {r n : Nat} (he : e.1 ≤ b) (hl : M.1 0 1 = Int32.ofNat 1) (hr : M.1 1 3 = Int32.ofNat r) (hr6 : r ≤ 6) (hn : M.1 2 1 = Int32.ofNat n) (hm : n ≤ 24) (hx : (rngB 0 ((r : Int) - 1) x && rngB 0 ((n : Int) - 1) y) = false) : dN e (d + 5) 273 [.ref b, .int x, .int y] (ov TM 8 b M m) = rI (Int32.ofNat 0) (ov TM 8 b (mT M 2) m) := by
  refine en273 M_c0 fun t ht => ?_
  obtain ⟨u, rfl⟩ := fu 9 ht rfl
  simp -implicitDefEqProofs (disch := omega) only [↓reduceIte, q273_0, q273_1, q273_2, c_bt2 he hl hr hr6 hn hm hx, bd_s, kI_r, kV_r, kL_r, rZ_1, rZ_0, rZ_b, rI_ite, bI_ite, ite_tf, ite_ft, bI0, bI1, bf_ite, nAdd, nMul, nLt, nEq, nEqM, nMEq, nMLt, nLtM, nMLt0, if_true, if_false, Nat.reduceAdd, Nat.reduceMul, Nat.zero_add, Nat.add_zero, decide_eq_true_eq, decide_true, decide_false, Nat.reduceEqDiff, Nat.reduceLT, Nat.reduceLeDiff, eq_self, Bool.false_eq_true, Bool.true_eq_false, Bool.not_eq_false', Bool.not_eq_true', ite_not, uA_s, uA_n, uA_uA, M_r0_2, M_r0_3, M_a1, M_a2, M_g0_0, M_g0_1, M_a3, M_a4, M_r0_4, M_r0_6, M_g0_5, mT_n, mT_00, mT_0k, mT_up, mT_mk, mT_mT, dnf, Bool.not_false, Bool.not_true]
theorem m273_0 {j k r n : Nat} (he : e.1 ≤ b) (hl : M.1 0 1 = Int32.ofNat 1) (hr : M.1 1 3 = Int32.ofNat r) (hr6 : r ≤ 6) (hn : M.1 2 1 = Int32.ofNat n) (hm : n ≤ 24) (hj : j < r) (hk : k < n) (hc : okI 0 7 (bx (M.1 2) k 0)) (hw : okI 0 3 (bx (M.1 2) k 8)) : dN e (d + 5) 273 [.ref b, .int (Int32.ofNat j), .int (Int32.ofNat k)] (ov TM 8 b M m) = rI (obsS (M.1 2) (M.1 1) (Int32.ofNat j) k) (ov TM 8 b (mT M 0) m) := by
  have h9 := c_obs (e := e) (d := d + 1) (b := b) (m := m) (M := mT M 0) (r := Int32.ofNat j) (show k < 24 by omega) hc hw
  refine en273 M_c0 fun t ht => ?_
  obtain ⟨u, rfl⟩ := fu 9 ht rfl
  simp -implicitDefEqProofs (disch := omega) only [↓reduceIte, q273_0, q273_1, q273_2, c_bt0 he hl hr hr6 hn hm hj hk, h9, bd_s, kI_r, kV_r, kL_r, rZ_1, rZ_0, rZ_b, rI_ite, bI_ite, ite_tf, ite_ft, bI0, bI1, bf_ite, nAdd, nMul, nLt, nEq, nEqM, nMEq, nMLt, nLtM, nMLt0, if_true, if_false, Nat.reduceAdd, Nat.reduceMul, Nat.zero_add, Nat.add_zero, decide_eq_true_eq, decide_true, decide_false, Nat.reduceEqDiff, Nat.reduceLT, Nat.reduceLeDiff, eq_self, Bool.false_eq_true, Bool.true_eq_false, Bool.not_eq_false', Bool.not_eq_true', ite_not, uA_s, uA_n, uA_uA, M_r0_2, M_r0_3, M_a1, M_a2, M_g0_0, M_g0_1, M_a3, M_a4, M_r0_4, M_r0_6, M_g0_5, mT_n, mT_00, mT_0k, mT_up, mT_mk, mT_mT, dnf, Bool.not_false, Bool.not_true]
theorem m256_1 {x : Int32} (he : e.1 ≤ b) (hl : M.1 0 1 = Int32.ofNat 0) : dN e (d + 4) 256 [.ref b, .int x] (ov TM 8 b M m) = rI (Int32.ofNat 0) (ov TM 8 b (mT M 1) m) := by
  refine en256 M_c0 fun t ht => ?_
  obtain ⟨u, rfl⟩ := fu 12 ht rfl
  simp -implicitDefEqProofs (disch := omega) only [↓reduceIte, q256_0, q256_1, q256_2, q256_3, c_bo1 he hl, bI_f, bd_s, kI_r, kV_r, kL_r, rZ_1, rZ_0, rZ_b, rI_ite, bI_ite, ite_tf, ite_ft, bI0, bI1, bf_ite, nAdd, nMul, nLt, nEq, nEqM, nMEq, nMLt, nLtM, nMLt0, if_true, if_false, Nat.reduceAdd, Nat.reduceMul, Nat.zero_add, Nat.add_zero, decide_eq_true_eq, decide_true, decide_false, Nat.reduceEqDiff, Nat.reduceLT, Nat.reduceLeDiff, eq_self, Bool.false_eq_true, Bool.true_eq_false, Bool.not_eq_false', Bool.not_eq_true', ite_not, uA_s, uA_n, uA_uA, M_r0_2, M_r0_3, M_a1, M_a2, M_g0_0, M_g0_1, mT_n, mT_00, mT_0k, mT_up, mT_mk, mT_mT, dnf, Bool.not_false, Bool.not_true]
theorem m256_2 {x : Int32} {n : Nat} (he : e.1 ≤ b) (hl : M.1 0 1 = Int32.ofNat 1) (hn : M.1 2 1 = Int32.ofNat n) (hm : n ≤ 24) (hx : rngB 0 ((n : Int) - 1) x = false) : dN e (d + 4) 256 [.ref b, .int x] (ov TM 8 b M m) = rI (Int32.ofNat 0) (ov TM 8 b (mT M 2) m) := by
  refine en256 M_c0 fun t ht => ?_
  obtain ⟨u, rfl⟩ := fu 12 ht rfl
  simp -implicitDefEqProofs (disch := omega) only [↓reduceIte, q256_0, q256_1, q256_2, q256_3, c_bo2 he hl hn hm hx, bI_f, bd_s, kI_r, kV_r, kL_r, rZ_1, rZ_0, rZ_b, rI_ite, bI_ite, ite_tf, ite_ft, bI0, bI1, bf_ite, nAdd, nMul, nLt, nEq, nEqM, nMEq, nMLt, nLtM, nMLt0, if_true, if_false, Nat.reduceAdd, Nat.reduceMul, Nat.zero_add, Nat.add_zero, decide_eq_true_eq, decide_true, decide_false, Nat.reduceEqDiff, Nat.reduceLT, Nat.reduceLeDiff, eq_self, Bool.false_eq_true, Bool.true_eq_false, Bool.not_eq_false', Bool.not_eq_true', ite_not, uA_s, uA_n, uA_uA, M_r0_2, M_r0_3, M_a1, M_a2, M_g0_0, M_g0_1, mT_n, mT_00, mT_0k, mT_up, mT_mk, mT_mT, dnf, Bool.not_false, Bool.not_true]
theorem m256_0 {n k : Nat} (he : e.1 ≤ b) (hl : M.1 0 1 = Int32.ofNat 1) (hn : M.1 2 1 = Int32.ofNat n) (hm : n ≤ 24) (hk : k < n) (H : WH (M.1 1)) (hw : WB (M.1 1) (M.1 2) k) : dN e (d + 4) 256 [.ref b, .int (Int32.ofNat k)] (ov TM 8 b M m) = rI (if gonB (M.1 2) k = true then nM1 else Int32.ofNat (nN (bx (M.1 2) k 4) / nN (M.1 1 1))) (ov TM 8 b (mT M 0) m) := by
  obtain ⟨p, p1, p2, p3, p4⟩ := H.2.1.ex
  have hp0 : ¬ p = 0 := by omega
  rw [p2]
  refine en256 M_c0 fun t ht => ?_
  obtain ⟨u, rfl⟩ := fu 12 ht rfl
  cases hg : gonB (M.1 2) k with
  | true => simp -implicitDefEqProofs (disch := omega) only [↓reduceIte, q256_0, q256_1, q256_2, q256_3, c_bo0 he hl hn hm hk, c_isGone (M := mT M 0) (show k < 24 by omega), hg, bd_s, kI_r, kV_r, kL_r, rZ_1, rZ_0, rZ_b, rI_ite, bI_ite, ite_tf, ite_ft, bI0, bI1, bf_ite, nAdd, nMul, nLt, nEq, nEqM, nMEq, nMLt, nLtM, nMLt0, if_true, if_false, Nat.reduceAdd, Nat.reduceMul, Nat.zero_add, Nat.add_zero, decide_eq_true_eq, decide_true, decide_false, Nat.reduceEqDiff, Nat.reduceLT, Nat.reduceLeDiff, eq_self, Bool.false_eq_true, Bool.true_eq_false, Bool.not_eq_false', Bool.not_eq_true', ite_not, uA_s, uA_n, uA_uA, M_r0_2, M_r0_3, M_a1, M_a2, M_g0_0, M_g0_1, M_a3, M_a4, M_r0_4, M_r0_6, M_g0_5, mT_n, mT_00, mT_0k, mT_up, mT_mk, mT_mT, dnf, Bool.not_false, Bool.not_true]
  | false =>
    obtain ⟨-, -, -, -, a4, -⟩ := hw
    rcases a4 with ⟨x1, x2⟩ | ⟨x1, x2, x3⟩
    · have : gonB (M.1 2) k = true := decide_eq_true x2
      rw [this] at hg
      cases hg
    · obtain ⟨v, v1, v2, -, v4⟩ := x1.ex
      rw [v2]
      simp -implicitDefEqProofs (disch := omega) only [↓reduceIte, q256_0, q256_1, q256_2, q256_3, c_bo0 he hl hn hm hk, c_isGone (M := mT M 0) (show k < 24 by omega), hg, c_box, v1, p1, hp0, nDiv, bd_s, kI_r, kV_r, kL_r, rZ_1, rZ_0, rZ_b, rI_ite, bI_ite, ite_tf, ite_ft, bI0, bI1, bf_ite, nAdd, nMul, nLt, nEq, nEqM, nMEq, nMLt, nLtM, nMLt0, if_true, if_false, Nat.reduceAdd, Nat.reduceMul, Nat.zero_add, Nat.add_zero, decide_eq_true_eq, decide_true, decide_false, Nat.reduceEqDiff, Nat.reduceLT, Nat.reduceLeDiff, eq_self, Bool.false_eq_true, Bool.true_eq_false, Bool.not_eq_false', Bool.not_eq_true', ite_not, uA_s, uA_n, uA_uA, M_r0_2, M_r0_3, M_a1, M_a2, M_g0_0, M_g0_1, M_a3, M_a4, M_r0_4, M_r0_6, M_g0_5, mT_n, mT_00, mT_0k, mT_up, mT_mk, mT_mT, dnf, Bool.not_false, Bool.not_true]
theorem m257_1 {x : Int32} (he : e.1 ≤ b) (hl : M.1 0 1 = Int32.ofNat 0) : dN e (d + 4) 257 [.ref b, .int x] (ov TM 8 b M m) = rI (Int32.ofNat 0) (ov TM 8 b (mT M 1) m) := by
  refine en257 M_c0 fun t ht => ?_
  obtain ⟨u, rfl⟩ := fu 12 ht rfl
  simp -implicitDefEqProofs (disch := omega) only [↓reduceIte, q257_0, q257_1, q257_2, q257_3, c_bo1 he hl, bI_f, bd_s, kI_r, kV_r, kL_r, rZ_1, rZ_0, rZ_b, rI_ite, bI_ite, ite_tf, ite_ft, bI0, bI1, bf_ite, nAdd, nMul, nLt, nEq, nEqM, nMEq, nMLt, nLtM, nMLt0, if_true, if_false, Nat.reduceAdd, Nat.reduceMul, Nat.zero_add, Nat.add_zero, decide_eq_true_eq, decide_true, decide_false, Nat.reduceEqDiff, Nat.reduceLT, Nat.reduceLeDiff, eq_self, Bool.false_eq_true, Bool.true_eq_false, Bool.not_eq_false', Bool.not_eq_true', ite_not, uA_s, uA_n, uA_uA, M_r0_2, M_r0_3, M_a1, M_a2, M_g0_0, M_g0_1, mT_n, mT_00, mT_0k, mT_up, mT_mk, mT_mT, dnf, Bool.not_false, Bool.not_true]
theorem m257_2 {x : Int32} {n : Nat} (he : e.1 ≤ b) (hl : M.1 0 1 = Int32.ofNat 1) (hn : M.1 2 1 = Int32.ofNat n) (hm : n ≤ 24) (hx : rngB 0 ((n : Int) - 1) x = false) : dN e (d + 4) 257 [.ref b, .int x] (ov TM 8 b M m) = rI (Int32.ofNat 0) (ov TM 8 b (mT M 2) m) := by
  refine en257 M_c0 fun t ht => ?_
  obtain ⟨u, rfl⟩ := fu 12 ht rfl
  simp -implicitDefEqProofs (disch := omega) only [↓reduceIte, q257_0, q257_1, q257_2, q257_3, c_bo2 he hl hn hm hx, bI_f, bd_s, kI_r, kV_r, kL_r, rZ_1, rZ_0, rZ_b, rI_ite, bI_ite, ite_tf, ite_ft, bI0, bI1, bf_ite, nAdd, nMul, nLt, nEq, nEqM, nMEq, nMLt, nLtM, nMLt0, if_true, if_false, Nat.reduceAdd, Nat.reduceMul, Nat.zero_add, Nat.add_zero, decide_eq_true_eq, decide_true, decide_false, Nat.reduceEqDiff, Nat.reduceLT, Nat.reduceLeDiff, eq_self, Bool.false_eq_true, Bool.true_eq_false, Bool.not_eq_false', Bool.not_eq_true', ite_not, uA_s, uA_n, uA_uA, M_r0_2, M_r0_3, M_a1, M_a2, M_g0_0, M_g0_1, mT_n, mT_00, mT_0k, mT_up, mT_mk, mT_mT, dnf, Bool.not_false, Bool.not_true]
theorem m257_0 {n k : Nat} (he : e.1 ≤ b) (hl : M.1 0 1 = Int32.ofNat 1) (hn : M.1 2 1 = Int32.ofNat n) (hm : n ≤ 24) (hk : k < n) (H : WH (M.1 1)) (hw : WB (M.1 1) (M.1 2) k) : dN e (d + 4) 257 [.ref b, .int (Int32.ofNat k)] (ov TM 8 b M m) = rI (if gonB (M.1 2) k = true then nM1 else Int32.ofNat (nN (bx (M.1 2) k 4) % nN (M.1 1 1))) (ov TM 8 b (mT M 0) m) := by
  obtain ⟨p, p1, p2, p3, p4⟩ := H.2.1.ex
  have hp0 : ¬ p = 0 := by omega
  rw [p2]
  refine en257 M_c0 fun t ht => ?_
  obtain ⟨u, rfl⟩ := fu 12 ht rfl
  cases hg : gonB (M.1 2) k with
  | true => simp -implicitDefEqProofs (disch := omega) only [↓reduceIte, q257_0, q257_1, q257_2, q257_3, c_bo0 he hl hn hm hk, c_isGone (M := mT M 0) (show k < 24 by omega), hg, bd_s, kI_r, kV_r, kL_r, rZ_1, rZ_0, rZ_b, rI_ite, bI_ite, ite_tf, ite_ft, bI0, bI1, bf_ite, nAdd, nMul, nLt, nEq, nEqM, nMEq, nMLt, nLtM, nMLt0, if_true, if_false, Nat.reduceAdd, Nat.reduceMul, Nat.zero_add, Nat.add_zero, decide_eq_true_eq, decide_true, decide_false, Nat.reduceEqDiff, Nat.reduceLT, Nat.reduceLeDiff, eq_self, Bool.false_eq_true, Bool.true_eq_false, Bool.not_eq_false', Bool.not_eq_true', ite_not, uA_s, uA_n, uA_uA, M_r0_2, M_r0_3, M_a1, M_a2, M_g0_0, M_g0_1, M_a3, M_a4, M_r0_4, M_r0_6, M_g0_5, mT_n, mT_00, mT_0k, mT_up, mT_mk, mT_mT, dnf, Bool.not_false, Bool.not_true]
  | false =>
    obtain ⟨-, -, -, -, a4, -⟩ := hw
    rcases a4 with ⟨x1, x2⟩ | ⟨x1, x2, x3⟩
    · have : gonB (M.1 2) k = true := decide_eq_true x2
      rw [this] at hg
      cases hg
    · obtain ⟨v, v1, v2, -, v4⟩ := x1.ex
      rw [v2]
      simp -implicitDefEqProofs (disch := omega) only [↓reduceIte, q257_0, q257_1, q257_2, q257_3, c_bo0 he hl hn hm hk, c_isGone (M := mT M 0) (show k < 24 by omega), hg, c_box, v1, p1, hp0, nMod, bd_s, kI_r, kV_r, kL_r, rZ_1, rZ_0, rZ_b, rI_ite, bI_ite, ite_tf, ite_ft, bI0, bI1, bf_ite, nAdd, nMul, nLt, nEq, nEqM, nMEq, nMLt, nLtM, nMLt0, if_true, if_false, Nat.reduceAdd, Nat.reduceMul, Nat.zero_add, Nat.add_zero, decide_eq_true_eq, decide_true, decide_false, Nat.reduceEqDiff, Nat.reduceLT, Nat.reduceLeDiff, eq_self, Bool.false_eq_true, Bool.true_eq_false, Bool.not_eq_false', Bool.not_eq_true', ite_not, uA_s, uA_n, uA_uA, M_r0_2, M_r0_3, M_a1, M_a2, M_g0_0, M_g0_1, M_a3, M_a4, M_r0_4, M_r0_6, M_g0_5, mT_n, mT_00, mT_0k, mT_up, mT_mk, mT_mT, dnf, Bool.not_false, Bool.not_true]
end
end

/-! ===== the reference's methods that change the archive (printed by wip/whole/mod2.py) ===== -/
noncomputable section
section
variable {e : dEnv} {d b : Nat} {M : bX} {m : dMem}
theorem c_serves {Y k : Nat} (he : e.1 ≤ b) (W : WS Y (M.1 1) (M.1 2)) (hk : k < nbS (M.1 2)) : dN e (d + 4) 196 [.ref b, .int (Int32.ofNat k)] (ov TM 8 b M m) = some (.inl none, (ov TM 8 b (uA M 2 (srvS (M.1 2) (M.1 1) k)) m)) := by
  have hn : nbS (M.1 2) ≤ 24 := W.1.2.2
  obtain ⟨a0, a1, a2, a3, a4, a5, a6, a7⟩ := W.2.2.2.1 k hk
  have hk' : k < 24 := by omega
  obtain ⟨w, hw1, hw2, -, hw3⟩ := a6.ex
  refine en196 M_c0 fun t ht => ?_
  obtain ⟨u, rfl⟩ := fu 2 ht rfl
  unfold srvS
  cases hg : gonB (M.1 2) k with
  | true =>
    simp only [Bool.true_or, cond_true, uA_self]
    simp (disch := omega) only [q196_0, q196_1, c_isGone hk', hg, bd_s, kI_r, kV_r, kL_r, rZ_1, rZ_0, rZ_b, rI_ite, bI_ite, ite_tf, ite_ft, bI0, bI1, bf_ite, nAdd, nMul, nLt, nEq, nEqM, nMEq, nMLt, nLtM, nMLt0, if_true, if_false, Nat.reduceAdd, Nat.reduceMul, Nat.zero_add, Nat.add_zero, decide_eq_true_eq, decide_true, decide_false, Nat.reduceEqDiff, Nat.reduceLT, Nat.reduceLeDiff, eq_self, Bool.false_eq_true, Bool.true_eq_false, Bool.not_eq_false', Bool.not_eq_true', ite_not, uA_s, uA_n, uA_uA, M_r0_2, M_r0_3, M_a1, M_a2]
  | false =>
  cases hs : selB (M.1 2) k with
  | true =>
    simp only [Bool.true_or, Bool.or_true, cond_true, uA_self]
    simp (disch := omega) only [q196_0, q196_1, c_isGone hk', c_hasSeal hk', c_box, hg, hs, bd_s, kI_r, kV_r, kL_r, rZ_1, rZ_0, rZ_b, rI_ite, bI_ite, ite_tf, ite_ft, bI0, bI1, bf_ite, nAdd, nMul, nLt, nEq, nEqM, nMEq, nMLt, nLtM, nMLt0, if_true, if_false, Nat.reduceAdd, Nat.reduceMul, Nat.zero_add, Nat.add_zero, decide_eq_true_eq, decide_true, decide_false, Nat.reduceEqDiff, Nat.reduceLT, Nat.reduceLeDiff, eq_self, Bool.false_eq_true, Bool.true_eq_false, Bool.not_eq_false', Bool.not_eq_true', ite_not, uA_s, uA_n, uA_uA, M_r0_2, M_r0_3, M_a1, M_a2]
  | false =>
  by_cases h5 : bx (M.1 2) k 5 = nM1
  · simp only [Bool.false_or, h5, decide_true, Bool.not_true, cond_false]
    simp (disch := omega) only [q196_0, q196_2, c_isGone hk', c_hasSeal hk', c_box, hg, hs, h5, bd_s, kI_r, kV_r, kL_r, rZ_1, rZ_0, rZ_b, rI_ite, bI_ite, ite_tf, ite_ft, bI0, bI1, bf_ite, nAdd, nMul, nLt, nEq, nEqM, nMEq, nMLt, nLtM, nMLt0, if_true, if_false, Nat.reduceAdd, Nat.reduceMul, Nat.zero_add, Nat.add_zero, decide_eq_true_eq, decide_true, decide_false, Nat.reduceEqDiff, Nat.reduceLT, Nat.reduceLeDiff, eq_self, Bool.false_eq_true, Bool.true_eq_false, Bool.not_eq_false', Bool.not_eq_true', ite_not, uA_s, uA_n, uA_uA, M_r0_2, M_r0_3, M_a1, M_a2]
    rw [hw2]
    have key := lp_find2 (c := 3) (n := w) (p := fun i => mayH (M.1 2) (M.1 1) (bx (M.1 2) k (9 + i))) (G := fun t i => runL e (dN e (d + 3)) 196 t 3 [some (.ref b), some (.int (Int32.ofNat k)), some (.int (Int32.ofNat i)), none] [] (ov TM 8 b M m)) (r := fun i => some (.inl none, (ov TM 8 b (uA M 2 (lndS (lvS (M.1 2) k i) k (bx (M.1 2) k (9 + i)))) m))) (r0 := some (.inl none, (ov TM 8 b M m))) ?_ ?_ ?_ u (by omega)
    · refine key.trans ?_
      cases fnd w (fun i => mayH (M.1 2) (M.1 1) (bx (M.1 2) k (9 + i))) with
      | none => simp only [uA_self]
      | some i => rfl
    · intro i hi hp
      have hq := a7 i (by omega)
      refine ⟨2, by omega, fun t => ?_⟩
      simp (disch := omega) only [q196_3, q196_4, c_box, hw1, hi, c_mayH W.1 hq.1, hp, bd_s, kI_r, kV_r, kL_r, rZ_1, rZ_0, rZ_b, rI_ite, bI_ite, ite_tf, ite_ft, bI0, bI1, bf_ite, nAdd, nMul, nLt, nEq, nEqM, nMEq, nMLt, nLtM, nMLt0, if_true, if_false, Nat.reduceAdd, Nat.reduceMul, Nat.zero_add, Nat.add_zero, decide_eq_true_eq, decide_true, decide_false, Nat.reduceEqDiff, Nat.reduceLT, Nat.reduceLeDiff, eq_self, Bool.false_eq_true, Bool.true_eq_false, Bool.not_eq_false', Bool.not_eq_true', ite_not, uA_s, uA_n, uA_uA, M_r0_2, M_r0_3, M_a1, M_a2]
    · intro t i hi hp
      have hq := a7 i (by omega)
      simp (disch := omega) only [q196_3, c_box, hw1, hi, c_mayH W.1 hq.1, hp, c_leaves he hk' a6 (show i < nN (bx (M.1 2) k 8) by omega), c_lends he hk', bd_s, kI_r, kV_r, kL_r, rZ_1, rZ_0, rZ_b, rI_ite, bI_ite, ite_tf, ite_ft, bI0, bI1, bf_ite, nAdd, nMul, nLt, nEq, nEqM, nMEq, nMLt, nLtM, nMLt0, if_true, if_false, Nat.reduceAdd, Nat.reduceMul, Nat.zero_add, Nat.add_zero, decide_eq_true_eq, decide_true, decide_false, Nat.reduceEqDiff, Nat.reduceLT, Nat.reduceLeDiff, eq_self, Bool.false_eq_true, Bool.true_eq_false, Bool.not_eq_false', Bool.not_eq_true', ite_not, uA_s, uA_n, uA_uA, M_r0_2, M_r0_3, M_a1, M_a2]
    · intro t
      simp (disch := omega) only [q196_3, q196_5, c_box, hw1, Nat.lt_irrefl, bd_s, kI_r, kV_r, kL_r, rZ_1, rZ_0, rZ_b, rI_ite, bI_ite, ite_tf, ite_ft, bI0, bI1, bf_ite, nAdd, nMul, nLt, nEq, nEqM, nMEq, nMLt, nLtM, nMLt0, if_true, if_false, Nat.reduceAdd, Nat.reduceMul, Nat.zero_add, Nat.add_zero, decide_eq_true_eq, decide_true, decide_false, Nat.reduceEqDiff, Nat.reduceLT, Nat.reduceLeDiff, eq_self, Bool.false_eq_true, Bool.true_eq_false, Bool.not_eq_false', Bool.not_eq_true', ite_not, uA_s, uA_n, uA_uA, M_r0_2, M_r0_3, M_a1, M_a2]
  · simp only [Bool.false_or, h5, decide_false, Bool.not_false, cond_true, uA_self]
    simp (disch := omega) only [q196_0, q196_1, c_isGone hk', c_hasSeal hk', c_box, hg, hs, h5, bd_s, kI_r, kV_r, kL_r, rZ_1, rZ_0, rZ_b, rI_ite, bI_ite, ite_tf, ite_ft, bI0, bI1, bf_ite, nAdd, nMul, nLt, nEq, nEqM, nMEq, nMLt, nLtM, nMLt0, if_true, if_false, Nat.reduceAdd, Nat.reduceMul, Nat.zero_add, Nat.add_zero, decide_eq_true_eq, decide_true, decide_false, Nat.reduceEqDiff, Nat.reduceLT, Nat.reduceLeDiff, eq_self, Bool.false_eq_true, Bool.true_eq_false, Bool.not_eq_false', Bool.not_eq_true', ite_not, uA_s, uA_n, uA_uA, M_r0_2, M_r0_3, M_a1, M_a2]
theorem c_gbk {Y k : Nat} (he : e.1 ≤ b) (W : WS Y (M.1 1) (M.1 2)) (hk : k < nbS (M.1 2)) : dN e (d + 5) 197 [.ref b, .int (Int32.ofNat k)] (ov TM 8 b M m) = some (.inl none, (ov TM 8 b (uA M 2 (gbkS (M.1 2) (M.1 1) k)) m)) := by
  have hn : nbS (M.1 2) ≤ 24 := W.1.2.2
  have hk' : k < 24 := by omega
  have h2 : k < nbS (lay (M.1 2) k 5 nM1) := by unfold nbS; rw [lay_lo (by omega)]; exact hk
  refine en197 M_c0 fun t ht => ?_
  obtain ⟨u, rfl⟩ := fu 2 ht rfl
  simp (disch := omega) only [q197_0, c_lays he hk', c_serves (M := uA M 2 (lay (M.1 2) k 5 nM1)) he (WS_5 W (Or.inl rfl)) h2, bd_s, kI_r, kV_r, kL_r, rZ_1, rZ_0, rZ_b, rI_ite, bI_ite, ite_tf, ite_ft, bI0, bI1, bf_ite, nAdd, nMul, nLt, nEq, nEqM, nMEq, nMLt, nLtM, nMLt0, if_true, if_false, Nat.reduceAdd, Nat.reduceMul, Nat.zero_add, Nat.add_zero, decide_eq_true_eq, decide_true, decide_false, Nat.reduceEqDiff, Nat.reduceLT, Nat.reduceLeDiff, eq_self, Bool.false_eq_true, Bool.true_eq_false, Bool.not_eq_false', Bool.not_eq_true', ite_not, uA_s, uA_n, uA_uA, M_r0_2, M_r0_3, M_a1, M_a2]
  rfl
theorem c_passes {Y : Nat} (hY : Y ≤ 1000000) (he : e.1 ≤ b) (W : WS Y (M.1 1) (M.1 2)) : dN e (d + 5) 198 [.ref b] (ov TM 8 b M m) = some (.inl none, (ov TM 8 b (uA M 2 (pasS (M.1 2) (M.1 1))) m)) := by
  obtain ⟨n, hb, hn0, -, hn⟩ := W.1.ex
  have W1 := WS_year hY W
  have e1 : nbS (wr (M.1 2) 0 (M.1 2 0 + Int32.ofNat 1)) = n := by unfold nbS; rw [wr_n (by omega)]; exact hn0
  have W2 : ∀ k, k ≤ n → WS (Y + 1) (M.1 1) (upF eolF k (wr (M.1 2) 0 (M.1 2 0 + Int32.ofNat 1))) := upF_inv (P := fun t => WS (Y + 1) (M.1 1) t) W1 (fun k t _ ht => WS_eol ht)
  have b2 : ∀ k, upF eolF k (wr (M.1 2) 0 (M.1 2 0 + Int32.ofNat 1)) 1 = Int32.ofNat n := fun k => by rw [eols_lo (by omega), wr_n (by omega), hb]
  have e2 : ∀ k, nbS (upF eolF k (wr (M.1 2) 0 (M.1 2 0 + Int32.ofNat 1))) = n := fun k => by unfold nbS; rw [b2, nN_o (by omega)]
  have W3 : ∀ k, k ≤ n → WS (Y + 1) (M.1 1) (upF (srvF (M.1 1)) k (upF eolF n (wr (M.1 2) 0 (M.1 2 0 + Int32.ofNat 1)))) ∧ nbS (upF (srvF (M.1 1)) k (upF eolF n (wr (M.1 2) 0 (M.1 2 0 + Int32.ofNat 1)))) = n := upF_inv (P := fun t => WS (Y + 1) (M.1 1) t ∧ nbS t = n) ⟨W2 _ (Nat.le_refl _), e2 _⟩ (fun k t hk ht => ⟨WS_srv ht.1 (by rw [ht.2]; exact hk), by
    rw [← ht.2]
    show nN (srvS t (M.1 1) k 1) = nN (t 1)
    rw [srv_lo (by omega)]⟩)
  have b3 : ∀ k, upF (srvF (M.1 1)) k (upF eolF n (wr (M.1 2) 0 (M.1 2 0 + Int32.ofNat 1))) 1 = Int32.ofNat n := fun k => by rw [srvs_lo (by omega), b2]
  refine en198 M_c0 fun t ht => ?_
  obtain ⟨u, rfl⟩ := fu 1 ht rfl
  simp (disch := omega) only [q198_0, M_s2 he, bd_s, kI_r, kV_r, kL_r, rZ_1, rZ_0, rZ_b, rI_ite, bI_ite, ite_tf, ite_ft, bI0, bI1, bf_ite, nAdd, nMul, nLt, nEq, nEqM, nMEq, nMLt, nLtM, nMLt0, if_true, if_false, Nat.reduceAdd, Nat.reduceMul, Nat.zero_add, Nat.add_zero, decide_eq_true_eq, decide_true, decide_false, Nat.reduceEqDiff, Nat.reduceLT, Nat.reduceLeDiff, eq_self, Bool.false_eq_true, Bool.true_eq_false, Bool.not_eq_false', Bool.not_eq_true', ite_not, uA_s, uA_n, uA_uA, M_r0_2, M_r0_3, M_a1, M_a2]
  have e3 : pasS (M.1 2) (M.1 1) = upF (srvF (M.1 1)) n (upF eolF n (wr (M.1 2) 0 (M.1 2 0 + Int32.ofNat 1))) := by
    unfold pasS
    rw [show nbS (M.1 2) = n from hn0]
  rw [e3]
  have key2 : ∀ v, 200 ≤ v → runL e (dN e (d + 4)) 198 v 4 [some (.ref b), some (.int (Int32.ofNat 0))] [] (ov TM 8 b (uA M 2 (upF eolF n (wr (M.1 2) 0 (M.1 2 0 + Int32.ofNat 1)))) m) = some (.inl none, ov TM 8 b (uA M 2 (upF (srvF (M.1 1)) n (upF eolF n (wr (M.1 2) 0 (M.1 2 0 + Int32.ofNat 1))))) m) := by
    intro v hv
    refine lp_up2 (c := 2) (n := n) (G := fun t k => runL e (dN e (d + 4)) 198 t 4 [some (.ref b), some (.int (Int32.ofNat k))] [] (ov TM 8 b (uA M 2 (upF (srvF (M.1 1)) k (upF eolF n (wr (M.1 2) 0 (M.1 2 0 + Int32.ofNat 1))))) m)) (fun k hk => ⟨1, by omega, fun t => ?_⟩) (fun t => ?_) v (by omega)
    · have hs := c_serves (e := e) (d := d) (b := b) (k := k) (m := m) (M := uA M 2 (upF (srvF (M.1 1)) k (upF eolF n (wr (M.1 2) 0 (M.1 2 0 + Int32.ofNat 1))))) he (W3 k (by omega)).1 (by rw [uA_s, (W3 k (by omega)).2]; exact hk)
      rw [upF_s]
      simp (disch := omega) only [q198_4, hs, b3, hk, bd_s, kI_r, kV_r, kL_r, rZ_1, rZ_0, rZ_b, rI_ite, bI_ite, ite_tf, ite_ft, bI0, bI1, bf_ite, nAdd, nMul, nLt, nEq, nEqM, nMEq, nMLt, nLtM, nMLt0, if_true, if_false, Nat.reduceAdd, Nat.reduceMul, Nat.zero_add, Nat.add_zero, decide_eq_true_eq, decide_true, decide_false, Nat.reduceEqDiff, Nat.reduceLT, Nat.reduceLeDiff, eq_self, Bool.false_eq_true, Bool.true_eq_false, Bool.not_eq_false', Bool.not_eq_true', ite_not, uA_s, uA_n, uA_uA, M_r0_2, M_r0_3, M_a1, M_a2]
      rfl
    · simp (disch := omega) only [q198_4, q198_5, b3, Nat.lt_irrefl, bd_s, kI_r, kV_r, kL_r, rZ_1, rZ_0, rZ_b, rI_ite, bI_ite, ite_tf, ite_ft, bI0, bI1, bf_ite, nAdd, nMul, nLt, nEq, nEqM, nMEq, nMLt, nLtM, nMLt0, if_true, if_false, Nat.reduceAdd, Nat.reduceMul, Nat.zero_add, Nat.add_zero, decide_eq_true_eq, decide_true, decide_false, Nat.reduceEqDiff, Nat.reduceLT, Nat.reduceLeDiff, eq_self, Bool.false_eq_true, Bool.true_eq_false, Bool.not_eq_false', Bool.not_eq_true', ite_not, uA_s, uA_n, uA_uA, M_r0_2, M_r0_3, M_a1, M_a2]
  have hl := fun k (hk : k < 24) => c_lays (e := e) (d := d + 3) (b := b) (m := m) (k := k) (w := 5) (x := nM1) (M := uA M 2 (upF eolF k (wr (M.1 2) 0 (M.1 2 0 + Int32.ofNat 1)))) he hk (by omega)
  refine lp_up2 (c := 300) (n := n) (G := fun t k => runL e (dN e (d + 4)) 198 t 1 [some (.ref b), some (.int (Int32.ofNat k))] [] (ov TM 8 b (uA M 2 (upF eolF k (wr (M.1 2) 0 (M.1 2 0 + Int32.ofNat 1)))) m)) (fun k hk => ⟨2, by omega, fun t => ?_⟩) (fun t => ?_) u (by omega)
  · have hb2 := b2 k
    rw [upF_s]
    by_cases h5 : bx (upF eolF k (wr (M.1 2) 0 (M.1 2 0 + Int32.ofNat 1))) k 5 = nM1
    · rw [eol_n h5]
      simp (disch := omega) only [q198_1, q198_2, c_box, hb2, hk, h5, bd_s, kI_r, kV_r, kL_r, rZ_1, rZ_0, rZ_b, rI_ite, bI_ite, ite_tf, ite_ft, bI0, bI1, bf_ite, nAdd, nMul, nLt, nEq, nEqM, nMEq, nMLt, nLtM, nMLt0, if_true, if_false, Nat.reduceAdd, Nat.reduceMul, Nat.zero_add, Nat.add_zero, decide_eq_true_eq, decide_true, decide_false, Nat.reduceEqDiff, Nat.reduceLT, Nat.reduceLeDiff, eq_self, Bool.false_eq_true, Bool.true_eq_false, Bool.not_eq_false', Bool.not_eq_true', ite_not, uA_s, uA_n, uA_uA, M_r0_2, M_r0_3, M_a1, M_a2]
    · by_cases h6 : upF eolF k (wr (M.1 2) 0 (M.1 2 0 + Int32.ofNat 1)) 0 - bx (upF eolF k (wr (M.1 2) 0 (M.1 2 0 + Int32.ofNat 1))) k 6 < Int32.ofNat 2
      · rw [eol_n2 h6]
        simp (disch := omega) only [q198_1, q198_2, c_box, hb2, hk, h5, h6, bd_s, kI_r, kV_r, kL_r, rZ_1, rZ_0, rZ_b, rI_ite, bI_ite, ite_tf, ite_ft, bI0, bI1, bf_ite, nAdd, nMul, nLt, nEq, nEqM, nMEq, nMLt, nLtM, nMLt0, if_true, if_false, Nat.reduceAdd, Nat.reduceMul, Nat.zero_add, Nat.add_zero, decide_eq_true_eq, decide_true, decide_false, Nat.reduceEqDiff, Nat.reduceLT, Nat.reduceLeDiff, eq_self, Bool.false_eq_true, Bool.true_eq_false, Bool.not_eq_false', Bool.not_eq_true', ite_not, uA_s, uA_n, uA_uA, M_r0_2, M_r0_3, M_a1, M_a2]
      · rw [eol_y h5 h6]
        simp (disch := omega) only [q198_1, q198_2, c_box, hb2, hk, h5, h6, hl k (by omega), bd_s, kI_r, kV_r, kL_r, rZ_1, rZ_0, rZ_b, rI_ite, bI_ite, ite_tf, ite_ft, bI0, bI1, bf_ite, nAdd, nMul, nLt, nEq, nEqM, nMEq, nMLt, nLtM, nMLt0, if_true, if_false, Nat.reduceAdd, Nat.reduceMul, Nat.zero_add, Nat.add_zero, decide_eq_true_eq, decide_true, decide_false, Nat.reduceEqDiff, Nat.reduceLT, Nat.reduceLeDiff, eq_self, Bool.false_eq_true, Bool.true_eq_false, Bool.not_eq_false', Bool.not_eq_true', ite_not, uA_s, uA_n, uA_uA, M_r0_2, M_r0_3, M_a1, M_a2]
  · have hb2 := b2 n
    simp (disch := omega) only [q198_1, q198_3, hb2, Nat.lt_irrefl, bd_s, kI_r, kV_r, kL_r, rZ_1, rZ_0, rZ_b, rI_ite, bI_ite, ite_tf, ite_ft, bI0, bI1, bf_ite, nAdd, nMul, nLt, nEq, nEqM, nMEq, nMLt, nLtM, nMLt0, if_true, if_false, Nat.reduceAdd, Nat.reduceMul, Nat.zero_add, Nat.add_zero, decide_eq_true_eq, decide_true, decide_false, Nat.reduceEqDiff, Nat.reduceLT, Nat.reduceLeDiff, eq_self, Bool.false_eq_true, Bool.true_eq_false, Bool.not_eq_false', Bool.not_eq_true', ite_not, uA_s, uA_n, uA_uA, M_r0_2, M_r0_3, M_a1, M_a2]
    exact key2 _ (by omega)
theorem c_years {Y n : Nat} (he : e.1 ≤ b) (W : WS Y (M.1 1) (M.1 2)) (hn : n ≤ 100) (hY : Y + 100 ≤ 1000000) : dN e (d + 6) 199 [.ref b, .int (Int32.ofNat n)] (ov TM 8 b M m) = some (.inl none, (ov TM 8 b (uA M 2 (yrsS (M.1 1) n (M.1 2))) m)) := by
  refine en199 M_c0 fun t ht => ?_
  obtain ⟨u, rfl⟩ := fu 1 ht rfl
  rw [q199_0]
  have e0 : uA M 2 (yrsS (M.1 1) 0 (M.1 2)) = M := uA_self M 2
  suffices h : runL e (dN e (d + 5)) 199 u 1 [some (.ref b), some (.int (Int32.ofNat n)), some (.int (Int32.ofNat 0))] [] (ov TM 8 b (uA M 2 (yrsS (M.1 1) 0 (M.1 2))) m) = some (.inl none, ov TM 8 b (uA M 2 (yrsS (M.1 1) n (M.1 2))) m) by
    rw [e0] at h
    exact h
  refine lp_up2 (c := 2) (n := n) (G := fun t k => runL e (dN e (d + 5)) 199 t 1 [some (.ref b), some (.int (Int32.ofNat n)), some (.int (Int32.ofNat k))] [] (ov TM 8 b (uA M 2 (yrsS (M.1 1) k (M.1 2))) m)) (fun k hk => ⟨1, by omega, fun t => ?_⟩) (fun t => ?_) u (by omega)
  · have hp := c_passes (e := e) (d := d) (b := b) (m := m) (M := uA M 2 (yrsS (M.1 1) k (M.1 2))) (by omega) he (WS_yrs W (n := k) (by omega))
    simp (disch := omega) only [q199_1, hk, hp, bd_s, kI_r, kV_r, kL_r, rZ_1, rZ_0, rZ_b, rI_ite, bI_ite, ite_tf, ite_ft, bI0, bI1, bf_ite, nAdd, nMul, nLt, nEq, nEqM, nMEq, nMLt, nLtM, nMLt0, if_true, if_false, Nat.reduceAdd, Nat.reduceMul, Nat.zero_add, Nat.add_zero, decide_eq_true_eq, decide_true, decide_false, Nat.reduceEqDiff, Nat.reduceLT, Nat.reduceLeDiff, eq_self, Bool.false_eq_true, Bool.true_eq_false, Bool.not_eq_false', Bool.not_eq_true', ite_not, uA_s, uA_n, uA_uA, M_r0_2, M_r0_3, M_a1, M_a2]
    rfl
  · simp (disch := omega) only [q199_1, q199_2, Nat.lt_irrefl, bd_s, kI_r, kV_r, kL_r, rZ_1, rZ_0, rZ_b, rI_ite, bI_ite, ite_tf, ite_ft, bI0, bI1, bf_ite, nAdd, nMul, nLt, nEq, nEqM, nMEq, nMLt, nLtM, nMLt0, if_true, if_false, Nat.reduceAdd, Nat.reduceMul, Nat.zero_add, Nat.add_zero, decide_eq_true_eq, decide_true, decide_false, Nat.reduceEqDiff, Nat.reduceLT, Nat.reduceLeDiff, eq_self, Bool.false_eq_true, Bool.true_eq_false, Bool.not_eq_false', Bool.not_eq_true', ite_not, uA_s, uA_n, uA_uA, M_r0_2, M_r0_3, M_a1, M_a2]
theorem c_gone (W : okI 0 24 (M.1 2 1)) : dN e (d + 2) 242 [.ref b] (ov TM 8 b M m) = rI (gonN (M.1 2)) (ov TM 8 b M m) := by
  obtain ⟨n, hb, hn0, -, hn⟩ := W.ex
  refine en242 M_c0 fun t ht => ?_
  obtain ⟨u, rfl⟩ := fu 1 ht rfl
  rw [q242_0]
  unfold gonN
  rw [show nbS (M.1 2) = n from hn0]
  refine lp_up2 (c := 2) (n := n) (G := fun t k => runL e (dN e (d + 1)) 242 t 1 [some (.ref b), some (.int (sumI (fun k => bx (M.1 2) k 7) k)), some (.int (Int32.ofNat k))] [] (ov TM 8 b M m)) (fun k hk => ⟨1, by omega, fun t => ?_⟩) (fun t => ?_) u (by omega)
  · simp (disch := omega) only [q242_1, hb, hk, c_box, bd_s, kI_r, kV_r, kL_r, rZ_1, rZ_0, rZ_b, rI_ite, bI_ite, ite_tf, ite_ft, bI0, bI1, bf_ite, nAdd, nMul, nLt, nEq, nEqM, nMEq, nMLt, nLtM, nMLt0, if_true, if_false, Nat.reduceAdd, Nat.reduceMul, Nat.zero_add, Nat.add_zero, decide_eq_true_eq, decide_true, decide_false, Nat.reduceEqDiff, Nat.reduceLT, Nat.reduceLeDiff, eq_self, Bool.false_eq_true, Bool.true_eq_false, Bool.not_eq_false', Bool.not_eq_true', ite_not, uA_s, uA_n, uA_uA, M_r0_2, M_r0_3, M_a1, M_a2]
    rfl
  · simp (disch := omega) only [q242_1, q242_2, hb, Nat.lt_irrefl, bd_s, kI_r, kV_r, kL_r, rZ_1, rZ_0, rZ_b, rI_ite, bI_ite, ite_tf, ite_ft, bI0, bI1, bf_ite, nAdd, nMul, nLt, nEq, nEqM, nMEq, nMLt, nLtM, nMLt0, if_true, if_false, Nat.reduceAdd, Nat.reduceMul, Nat.zero_add, Nat.add_zero, decide_eq_true_eq, decide_true, decide_false, Nat.reduceEqDiff, Nat.reduceLT, Nat.reduceLeDiff, eq_self, Bool.false_eq_true, Bool.true_eq_false, Bool.not_eq_false', Bool.not_eq_true', ite_not, uA_s, uA_n, uA_uA, M_r0_2, M_r0_3, M_a1, M_a2]
theorem c_lent (W : okI 0 24 (M.1 2 1)) : dN e (d + 2) 244 [.ref b] (ov TM 8 b M m) = rI (Int32.ofNat (lntN (M.1 2))) (ov TM 8 b M m) := by
  obtain ⟨n, hb, hn0, -, hn⟩ := W.ex
  refine en244 M_c0 fun t ht => ?_
  obtain ⟨u, rfl⟩ := fu 1 ht rfl
  rw [q244_0]
  unfold lntN
  rw [show nbS (M.1 2) = n from hn0]
  refine lp_up2 (c := 4) (n := n) (G := fun t k => runL e (dN e (d + 1)) 244 t 1 [some (.ref b), some (.int (Int32.ofNat (cnt (fun k => !decide (bx (M.1 2) k 5 = nM1)) k))), some (.int (Int32.ofNat k))] [] (ov TM 8 b M m)) (fun k hk => ?_) (fun t => ?_) u (by omega)
  · cases hp : (fun k => !decide (bx (M.1 2) k 5 = nM1)) k with
    | true =>
      have hp' : ¬ (bx (M.1 2) k 5 = nM1) := by simpa using hp
      refine ⟨2, by omega, fun t => ?_⟩
      simp (disch := omega) only [q244_1, q244_2, q244_3, q244_4, c_box, hb, hk, hp', cnt_t (p := fun k => !decide (bx (M.1 2) k 5 = nM1)) (k := k) hp, c_flag1, c_flag0, bd_s, kI_r, kV_r, kL_r, rZ_1, rZ_0, rZ_b, rI_ite, bI_ite, ite_tf, ite_ft, bI0, bI1, bf_ite, nAdd, nMul, nLt, nEq, nEqM, nMEq, nMLt, nLtM, nMLt0, if_true, if_false, Nat.reduceAdd, Nat.reduceMul, Nat.zero_add, Nat.add_zero, decide_eq_true_eq, decide_true, decide_false, Nat.reduceEqDiff, Nat.reduceLT, Nat.reduceLeDiff, eq_self, Bool.false_eq_true, Bool.true_eq_false, Bool.not_eq_false', Bool.not_eq_true', ite_not, uA_s, uA_n, uA_uA, M_r0_2, M_r0_3, M_a1, M_a2]
    | false =>
      have hp' : bx (M.1 2) k 5 = nM1 := by simpa using hp
      refine ⟨3, by omega, fun t => ?_⟩
      simp (disch := omega) only [q244_1, q244_2, q244_3, q244_4, c_box, hb, hk, hp', cnt_f (p := fun k => !decide (bx (M.1 2) k 5 = nM1)) (k := k) hp, c_flag1, c_flag0, bd_s, kI_r, kV_r, kL_r, rZ_1, rZ_0, rZ_b, rI_ite, bI_ite, ite_tf, ite_ft, bI0, bI1, bf_ite, nAdd, nMul, nLt, nEq, nEqM, nMEq, nMLt, nLtM, nMLt0, if_true, if_false, Nat.reduceAdd, Nat.reduceMul, Nat.zero_add, Nat.add_zero, decide_eq_true_eq, decide_true, decide_false, Nat.reduceEqDiff, Nat.reduceLT, Nat.reduceLeDiff, eq_self, Bool.false_eq_true, Bool.true_eq_false, Bool.not_eq_false', Bool.not_eq_true', ite_not, uA_s, uA_n, uA_uA, M_r0_2, M_r0_3, M_a1, M_a2]
  · simp (disch := omega) only [q244_1, q244_2, q244_3, q244_4, c_box, hb, Nat.lt_irrefl, bd_s, kI_r, kV_r, kL_r, rZ_1, rZ_0, rZ_b, rI_ite, bI_ite, ite_tf, ite_ft, bI0, bI1, bf_ite, nAdd, nMul, nLt, nEq, nEqM, nMEq, nMLt, nLtM, nMLt0, if_true, if_false, Nat.reduceAdd, Nat.reduceMul, Nat.zero_add, Nat.add_zero, decide_eq_true_eq, decide_true, decide_false, Nat.reduceEqDiff, Nat.reduceLT, Nat.reduceLeDiff, eq_self, Bool.false_eq_true, Bool.true_eq_false, Bool.not_eq_false', Bool.not_eq_true', ite_not, uA_s, uA_n, uA_uA, M_r0_2, M_r0_3, M_a1, M_a2]
theorem c_des {Y : Nat} (W : WS Y (M.1 1) (M.1 2)) : dN e (d + 4) 277 [.ref b] (ov TM 8 b M m) = rI (Int32.ofNat (desN (M.1 2) (M.1 1))) (ov TM 8 b M m) := by
  obtain ⟨n, hb, hn0, -, hn⟩ := W.1.ex
  have hC : ∀ k, k < n → okI 0 7 (bx (M.1 2) k 0) := fun k hk => (W.2.2.2.1 k (by unfold nbS; omega)).1
  refine en277 M_c0 fun t ht => ?_
  obtain ⟨u, rfl⟩ := fu 1 ht rfl
  rw [q277_0]
  unfold desN
  rw [show nbS (M.1 2) = n from hn0]
  refine lp_up2 (c := 4) (n := n) (G := fun t k => runL e (dN e (d + 3)) 277 t 1 [some (.ref b), some (.int (Int32.ofNat (cnt (fun k => decide (hinS (M.1 2) (M.1 1) k = Int32.ofNat 0)) k))), some (.int (Int32.ofNat k))] [] (ov TM 8 b M m)) (fun k hk => ?_) (fun t => ?_) u (by omega)
  · cases hp : (fun k => decide (hinS (M.1 2) (M.1 1) k = Int32.ofNat 0)) k with
    | true =>
      have hp' : hinS (M.1 2) (M.1 1) k = Int32.ofNat 0 := of_decide_eq_true hp
      refine ⟨2, by omega, fun t => ?_⟩
      simp (disch := omega) only [q277_1, q277_2, q277_3, hb, c_hin (show k < 24 by omega) (hC k hk), hk, hp', cnt_t (p := fun k => decide (hinS (M.1 2) (M.1 1) k = Int32.ofNat 0)) (k := k) hp, c_flag1, c_flag0, bd_s, kI_r, kV_r, kL_r, rZ_1, rZ_0, rZ_b, rI_ite, bI_ite, ite_tf, ite_ft, bI0, bI1, bf_ite, nAdd, nMul, nLt, nEq, nEqM, nMEq, nMLt, nLtM, nMLt0, if_true, if_false, Nat.reduceAdd, Nat.reduceMul, Nat.zero_add, Nat.add_zero, decide_eq_true_eq, decide_true, decide_false, Nat.reduceEqDiff, Nat.reduceLT, Nat.reduceLeDiff, eq_self, Bool.false_eq_true, Bool.true_eq_false, Bool.not_eq_false', Bool.not_eq_true', ite_not, uA_s, uA_n, uA_uA, M_r0_2, M_r0_3, M_a1, M_a2]
    | false =>
      have hp' : ¬ (hinS (M.1 2) (M.1 1) k = Int32.ofNat 0) := of_decide_eq_false hp
      refine ⟨3, by omega, fun t => ?_⟩
      simp (disch := omega) only [q277_1, q277_2, q277_3, hb, c_hin (show k < 24 by omega) (hC k hk), hk, hp', cnt_f (p := fun k => decide (hinS (M.1 2) (M.1 1) k = Int32.ofNat 0)) (k := k) hp, c_flag1, c_flag0, bd_s, kI_r, kV_r, kL_r, rZ_1, rZ_0, rZ_b, rI_ite, bI_ite, ite_tf, ite_ft, bI0, bI1, bf_ite, nAdd, nMul, nLt, nEq, nEqM, nMEq, nMLt, nLtM, nMLt0, if_true, if_false, Nat.reduceAdd, Nat.reduceMul, Nat.zero_add, Nat.add_zero, decide_eq_true_eq, decide_true, decide_false, Nat.reduceEqDiff, Nat.reduceLT, Nat.reduceLeDiff, eq_self, Bool.false_eq_true, Bool.true_eq_false, Bool.not_eq_false', Bool.not_eq_true', ite_not, uA_s, uA_n, uA_uA, M_r0_2, M_r0_3, M_a1, M_a2]
  · simp (disch := omega) only [q277_1, q277_4, hb, Nat.lt_irrefl, bd_s, kI_r, kV_r, kL_r, rZ_1, rZ_0, rZ_b, rI_ite, bI_ite, ite_tf, ite_ft, bI0, bI1, bf_ite, nAdd, nMul, nLt, nEq, nEqM, nMEq, nMLt, nLtM, nMLt0, if_true, if_false, Nat.reduceAdd, Nat.reduceMul, Nat.zero_add, Nat.add_zero, decide_eq_true_eq, decide_true, decide_false, Nat.reduceEqDiff, Nat.reduceLT, Nat.reduceLeDiff, eq_self, Bool.false_eq_true, Bool.true_eq_false, Bool.not_eq_false', Bool.not_eq_true', ite_not, uA_s, uA_n, uA_uA, M_r0_2, M_r0_3, M_a1, M_a2]
end
end

/-! ===== the reference's methods of the archive (printed by wip/whole/mod.py) ===== -/
noncomputable section
section
variable {e : dEnv} {d b : Nat} {M : bX} {m : dMem}
theorem okI.ex {lo hi : Nat} {x : Int32} (h : okI lo hi x) : ∃ n, x = Int32.ofNat n ∧ nN x = n ∧ lo ≤ n ∧ n ≤ hi := ⟨nN x, h.1, rfl, h.2.1, h.2.2⟩
theorem oI_s (k : Nat) : oI (some k) = Int32.ofNat k := rfl
theorem oI_n : oI none = nM1 := rfl
theorem c_flag1 : dN e (d + 1) 166 [.int (Int32.ofNat 1)] m = rI (Int32.ofNat 1) m := by
  refine en166 fun t ht => ?_
  obtain ⟨u, rfl⟩ := fu 9 ht rfl
  simp (disch := omega) only [q166_0, q166_1, q166_2, bd_s, kI_r, kV_r, kL_r, rZ_1, rZ_0, rZ_b, rI_ite, bI_ite, ite_tf, ite_ft, bI0, bI1, bf_ite, nAdd, nMul, nLt, nEq, nEqM, nMEq, nMLt, nLtM, nMLt0, if_true, if_false, Nat.reduceAdd, Nat.reduceMul, Nat.zero_add, Nat.add_zero, decide_eq_true_eq, decide_true, decide_false, Nat.reduceEqDiff, Nat.reduceLT, Nat.reduceLeDiff, eq_self, Bool.false_eq_true, Bool.true_eq_false, Bool.not_eq_false', Bool.not_eq_true', ite_not, M_r0_2, M_r0_3, M_a1, M_a2]
theorem c_flag0 : dN e (d + 1) 166 [.int (Int32.ofNat 0)] m = rI (Int32.ofNat 0) m := by
  refine en166 fun t ht => ?_
  obtain ⟨u, rfl⟩ := fu 9 ht rfl
  simp (disch := omega) only [q166_0, q166_1, q166_2, bd_s, kI_r, kV_r, kL_r, rZ_1, rZ_0, rZ_b, rI_ite, bI_ite, ite_tf, ite_ft, bI0, bI1, bf_ite, nAdd, nMul, nLt, nEq, nEqM, nMEq, nMLt, nLtM, nMLt0, if_true, if_false, Nat.reduceAdd, Nat.reduceMul, Nat.zero_add, Nat.add_zero, decide_eq_true_eq, decide_true, decide_false, Nat.reduceEqDiff, Nat.reduceLT, Nat.reduceLeDiff, eq_self, Bool.false_eq_true, Bool.true_eq_false, Bool.not_eq_false', Bool.not_eq_true', ite_not, M_r0_2, M_r0_3, M_a1, M_a2]
theorem c_flag (x : Bool) : dN e (d + 1) 166 [.int (bI x)] m = rI (bI x) m := by
  cases x
  · exact c_flag0
  · exact c_flag1
theorem c_box {k w : Nat} (hk : k < 24) (hw : w < 12) : dN e (d + 1) 172 [.ref b, .int (Int32.ofNat k), .int (Int32.ofNat w)] (ov TM 8 b M m) = rI (bx (M.1 2) k w) (ov TM 8 b M m) := by
  refine en172 M_c0 fun t ht => ?_
  obtain ⟨u, rfl⟩ := fu 9 ht rfl
  simp (disch := omega) only [q172_0, bd_s, kI_r, kV_r, kL_r, rZ_1, rZ_0, rZ_b, rI_ite, bI_ite, ite_tf, ite_ft, bI0, bI1, bf_ite, nAdd, nMul, nLt, nEq, nEqM, nMEq, nMLt, nLtM, nMLt0, if_true, if_false, Nat.reduceAdd, Nat.reduceMul, Nat.zero_add, Nat.add_zero, decide_eq_true_eq, decide_true, decide_false, Nat.reduceEqDiff, Nat.reduceLT, Nat.reduceLeDiff, eq_self, Bool.false_eq_true, Bool.true_eq_false, Bool.not_eq_false', Bool.not_eq_true', ite_not, M_r0_2, M_r0_3, M_a1, M_a2]
  rfl
theorem c_lays {k w : Nat} {x : Int32} (he : e.1 ≤ b) (hk : k < 24) (hw : w < 12) : dN e (d + 1) 173 [.ref b, .int (Int32.ofNat k), .int (Int32.ofNat w), .int x] (ov TM 8 b M m) = some (.inl none, (ov TM 8 b (uA M 2 (lay (M.1 2) k w x)) m)) := by
  refine en173 M_c0 fun t ht => ?_
  obtain ⟨u, rfl⟩ := fu 9 ht rfl
  simp (disch := omega) only [q173_0, M_s2 he, bd_s, kI_r, kV_r, kL_r, rZ_1, rZ_0, rZ_b, rI_ite, bI_ite, ite_tf, ite_ft, bI0, bI1, bf_ite, nAdd, nMul, nLt, nEq, nEqM, nMEq, nMLt, nLtM, nMLt0, if_true, if_false, Nat.reduceAdd, Nat.reduceMul, Nat.zero_add, Nat.add_zero, decide_eq_true_eq, decide_true, decide_false, Nat.reduceEqDiff, Nat.reduceLT, Nat.reduceLeDiff, eq_self, Bool.false_eq_true, Bool.true_eq_false, Bool.not_eq_false', Bool.not_eq_true', ite_not, M_r0_2, M_r0_3, M_a1, M_a2]
  rfl
theorem WH_mk {h : sV} (W : WH h) : h 0 * h 1 = Int32.ofNat (mkN h) ∧ 1 ≤ mkN h ∧ mkN h ≤ 48 := by
  obtain ⟨⟨a1, a2, a3⟩, ⟨b1, b2, b3⟩, -⟩ := W
  refine ⟨?_, ?_, ?_⟩
  · rw [a1, b1, nMul]
    rfl
  · exact Nat.mul_pos (by omega) (by omega)
  · exact Nat.mul_le_mul a3 b3
theorem c_marks (W : WH (M.1 1)) : dN e (d + 1) 174 [.ref b] (ov TM 8 b M m) = rI (Int32.ofNat (mkN (M.1 1))) (ov TM 8 b M m) := by
  refine en174 M_c0 fun t ht => ?_
  obtain ⟨u, rfl⟩ := fu 9 ht rfl
  simp (disch := omega) only [q174_0, (WH_mk W).1, bd_s, kI_r, kV_r, kL_r, rZ_1, rZ_0, rZ_b, rI_ite, bI_ite, ite_tf, ite_ft, bI0, bI1, bf_ite, nAdd, nMul, nLt, nEq, nEqM, nMEq, nMLt, nLtM, nMLt0, if_true, if_false, Nat.reduceAdd, Nat.reduceMul, Nat.zero_add, Nat.add_zero, decide_eq_true_eq, decide_true, decide_false, Nat.reduceEqDiff, Nat.reduceLT, Nat.reduceLeDiff, eq_self, Bool.false_eq_true, Bool.true_eq_false, Bool.not_eq_false', Bool.not_eq_true', ite_not, M_r0_2, M_r0_3, M_a1, M_a2]
theorem c_boxOn {x : Int32} (W : okI 0 24 (M.1 2 1)) : dN e (d + 2) 175 [.ref b, .int x] (ov TM 8 b M m) = rI (boxOnS (M.1 2) x) (ov TM 8 b M m) := by
  obtain ⟨n, hb, hn0, -, hn⟩ := W.ex
  refine en175 M_c0 fun t ht => ?_
  obtain ⟨u, rfl⟩ := fu 1 ht rfl
  rw [q175_0]
  unfold boxOnS
  rw [show nbS (M.1 2) = n from hn0]
  refine lp_fI (c := 2) (n := n) (G := fun t k => runL e (dN e (d + 1)) 175 t 1 [some (.ref b), some (.int (x)), some (.int (Int32.ofNat k))] [] (ov TM 8 b M m)) ?_ ?_ ?_ u (by omega)
  · intro t k hk hp
    have hp : ¬ (bx (M.1 2) k 4 = x) := of_decide_eq_false hp
    simp (disch := omega) only [q175_1, q175_2, q175_3, c_box, hb, hk, hp, bd_s, kI_r, kV_r, kL_r, rZ_1, rZ_0, rZ_b, rI_ite, bI_ite, ite_tf, ite_ft, bI0, bI1, bf_ite, nAdd, nMul, nLt, nEq, nEqM, nMEq, nMLt, nLtM, nMLt0, if_true, if_false, Nat.reduceAdd, Nat.reduceMul, Nat.zero_add, Nat.add_zero, decide_eq_true_eq, decide_true, decide_false, Nat.reduceEqDiff, Nat.reduceLT, Nat.reduceLeDiff, eq_self, Bool.false_eq_true, Bool.true_eq_false, Bool.not_eq_false', Bool.not_eq_true', ite_not, M_r0_2, M_r0_3, M_a1, M_a2]
  · intro t k hk hp
    have hp : bx (M.1 2) k 4 = x := of_decide_eq_true hp
    simp (disch := omega) only [q175_1, q175_2, q175_3, c_box, hb, hk, hp, bd_s, kI_r, kV_r, kL_r, rZ_1, rZ_0, rZ_b, rI_ite, bI_ite, ite_tf, ite_ft, bI0, bI1, bf_ite, nAdd, nMul, nLt, nEq, nEqM, nMEq, nMLt, nLtM, nMLt0, if_true, if_false, Nat.reduceAdd, Nat.reduceMul, Nat.zero_add, Nat.add_zero, decide_eq_true_eq, decide_true, decide_false, Nat.reduceEqDiff, Nat.reduceLT, Nat.reduceLeDiff, eq_self, Bool.false_eq_true, Bool.true_eq_false, Bool.not_eq_false', Bool.not_eq_true', ite_not, M_r0_2, M_r0_3, M_a1, M_a2]
  · intro t
    simp (disch := omega) only [q175_1, q175_2, q175_3, c_box, hb, Nat.lt_irrefl, bd_s, kI_r, kV_r, kL_r, rZ_1, rZ_0, rZ_b, rI_ite, bI_ite, ite_tf, ite_ft, bI0, bI1, bf_ite, nAdd, nMul, nLt, nEq, nEqM, nMEq, nMLt, nLtM, nMLt0, if_true, if_false, Nat.reduceAdd, Nat.reduceMul, Nat.zero_add, Nat.add_zero, decide_eq_true_eq, decide_true, decide_false, Nat.reduceEqDiff, Nat.reduceLT, Nat.reduceLeDiff, eq_self, Bool.false_eq_true, Bool.true_eq_false, Bool.not_eq_false', Bool.not_eq_true', ite_not, M_r0_2, M_r0_3, M_a1, M_a2]
theorem c_fst (W : okI 0 24 (M.1 2 1)) (H : WH (M.1 1)) : dN e (d + 3) 176 [.ref b] (ov TM 8 b M m) = rI (fstS (M.1 2) (M.1 1)) (ov TM 8 b M m) := by
  obtain ⟨-, -, hn⟩ := WH_mk H
  refine en176 M_c0 fun t ht => ?_
  obtain ⟨u, rfl⟩ := fu 1 ht rfl
  rw [q176_0]
  unfold fstS
  refine lp_fI (c := 2) (n := mkN (M.1 1)) (G := fun t k => runL e (dN e (d + 2)) 176 t 1 [some (.ref b), some (.int (Int32.ofNat k))] [] (ov TM 8 b M m)) ?_ ?_ ?_ u (by omega)
  · intro t k hk hp
    have hp : ¬ (boxOnS (M.1 2) (Int32.ofNat k) = nM1) := of_decide_eq_false hp
    simp (disch := omega) only [q176_1, q176_2, q176_3, c_marks H, c_boxOn W, hk, hp, bd_s, kI_r, kV_r, kL_r, rZ_1, rZ_0, rZ_b, rI_ite, bI_ite, ite_tf, ite_ft, bI0, bI1, bf_ite, nAdd, nMul, nLt, nEq, nEqM, nMEq, nMLt, nLtM, nMLt0, if_true, if_false, Nat.reduceAdd, Nat.reduceMul, Nat.zero_add, Nat.add_zero, decide_eq_true_eq, decide_true, decide_false, Nat.reduceEqDiff, Nat.reduceLT, Nat.reduceLeDiff, eq_self, Bool.false_eq_true, Bool.true_eq_false, Bool.not_eq_false', Bool.not_eq_true', ite_not, M_r0_2, M_r0_3, M_a1, M_a2]
  · intro t k hk hp
    have hp : boxOnS (M.1 2) (Int32.ofNat k) = nM1 := of_decide_eq_true hp
    simp (disch := omega) only [q176_1, q176_2, q176_3, c_marks H, c_boxOn W, hk, hp, bd_s, kI_r, kV_r, kL_r, rZ_1, rZ_0, rZ_b, rI_ite, bI_ite, ite_tf, ite_ft, bI0, bI1, bf_ite, nAdd, nMul, nLt, nEq, nEqM, nMEq, nMLt, nLtM, nMLt0, if_true, if_false, Nat.reduceAdd, Nat.reduceMul, Nat.zero_add, Nat.add_zero, decide_eq_true_eq, decide_true, decide_false, Nat.reduceEqDiff, Nat.reduceLT, Nat.reduceLeDiff, eq_self, Bool.false_eq_true, Bool.true_eq_false, Bool.not_eq_false', Bool.not_eq_true', ite_not, M_r0_2, M_r0_3, M_a1, M_a2]
  · intro t
    simp (disch := omega) only [q176_1, q176_2, q176_3, c_marks H, c_boxOn W, Nat.lt_irrefl, bd_s, kI_r, kV_r, kL_r, rZ_1, rZ_0, rZ_b, rI_ite, bI_ite, ite_tf, ite_ft, bI0, bI1, bf_ite, nAdd, nMul, nLt, nEq, nEqM, nMEq, nMLt, nLtM, nMLt0, if_true, if_false, Nat.reduceAdd, Nat.reduceMul, Nat.zero_add, Nat.add_zero, decide_eq_true_eq, decide_true, decide_false, Nat.reduceEqDiff, Nat.reduceLT, Nat.reduceLeDiff, eq_self, Bool.false_eq_true, Bool.true_eq_false, Bool.not_eq_false', Bool.not_eq_true', ite_not, M_r0_2, M_r0_3, M_a1, M_a2]
theorem c_free (W : okI 0 24 (M.1 2 1)) (H : WH (M.1 1)) : dN e (d + 3) 177 [.ref b] (ov TM 8 b M m) = rI (Int32.ofNat (freS (M.1 2) (M.1 1))) (ov TM 8 b M m) := by
  obtain ⟨-, -, hn⟩ := WH_mk H
  refine en177 M_c0 fun t ht => ?_
  obtain ⟨u, rfl⟩ := fu 1 ht rfl
  rw [q177_0]
  unfold freS
  refine lp_up2 (c := 4) (n := mkN (M.1 1)) (G := fun t k => runL e (dN e (d + 2)) 177 t 1 [some (.ref b), some (.int (Int32.ofNat (cnt (frB (M.1 2)) k))), some (.int (Int32.ofNat k))] [] (ov TM 8 b M m)) (fun k hk => ?_) (fun t => ?_) u (by omega)
  · cases hp : (frB (M.1 2)) k with
    | true =>
      have hp' : boxOnS (M.1 2) (Int32.ofNat k) = nM1 := of_decide_eq_true hp
      refine ⟨2, by omega, fun t => ?_⟩
      simp (disch := omega) only [q177_1, q177_2, q177_3, q177_4, c_marks H, c_boxOn W, hk, hp', cnt_t (p := frB (M.1 2)) (k := k) hp, c_flag1, c_flag0, bd_s, kI_r, kV_r, kL_r, rZ_1, rZ_0, rZ_b, rI_ite, bI_ite, ite_tf, ite_ft, bI0, bI1, bf_ite, nAdd, nMul, nLt, nEq, nEqM, nMEq, nMLt, nLtM, nMLt0, if_true, if_false, Nat.reduceAdd, Nat.reduceMul, Nat.zero_add, Nat.add_zero, decide_eq_true_eq, decide_true, decide_false, Nat.reduceEqDiff, Nat.reduceLT, Nat.reduceLeDiff, eq_self, Bool.false_eq_true, Bool.true_eq_false, Bool.not_eq_false', Bool.not_eq_true', ite_not, M_r0_2, M_r0_3, M_a1, M_a2]
    | false =>
      have hp' : ¬ (boxOnS (M.1 2) (Int32.ofNat k) = nM1) := of_decide_eq_false hp
      refine ⟨3, by omega, fun t => ?_⟩
      simp (disch := omega) only [q177_1, q177_2, q177_3, q177_4, c_marks H, c_boxOn W, hk, hp', cnt_f (p := frB (M.1 2)) (k := k) hp, c_flag1, c_flag0, bd_s, kI_r, kV_r, kL_r, rZ_1, rZ_0, rZ_b, rI_ite, bI_ite, ite_tf, ite_ft, bI0, bI1, bf_ite, nAdd, nMul, nLt, nEq, nEqM, nMEq, nMLt, nLtM, nMLt0, if_true, if_false, Nat.reduceAdd, Nat.reduceMul, Nat.zero_add, Nat.add_zero, decide_eq_true_eq, decide_true, decide_false, Nat.reduceEqDiff, Nat.reduceLT, Nat.reduceLeDiff, eq_self, Bool.false_eq_true, Bool.true_eq_false, Bool.not_eq_false', Bool.not_eq_true', ite_not, M_r0_2, M_r0_3, M_a1, M_a2]
  · simp (disch := omega) only [q177_1, q177_2, q177_3, q177_4, c_marks H, c_boxOn W, Nat.lt_irrefl, bd_s, kI_r, kV_r, kL_r, rZ_1, rZ_0, rZ_b, rI_ite, bI_ite, ite_tf, ite_ft, bI0, bI1, bf_ite, nAdd, nMul, nLt, nEq, nEqM, nMEq, nMLt, nLtM, nMLt0, if_true, if_false, Nat.reduceAdd, Nat.reduceMul, Nat.zero_add, Nat.add_zero, decide_eq_true_eq, decide_true, decide_false, Nat.reduceEqDiff, Nat.reduceLT, Nat.reduceLeDiff, eq_self, Bool.false_eq_true, Bool.true_eq_false, Bool.not_eq_false', Bool.not_eq_true', ite_not, M_r0_2, M_r0_3, M_a1, M_a2]
theorem c_isGone {k : Nat} (hk : k < 24) : dN e (d + 2) 179 [.ref b, .int (Int32.ofNat k)] (ov TM 8 b M m) = rI (bI (gonB (M.1 2) k)) (ov TM 8 b M m) := by
  refine en179 M_c0 fun t ht => ?_
  obtain ⟨u, rfl⟩ := fu 9 ht rfl
  simp (disch := omega) only [q179_0, q179_1, q179_2, c_box, gonB, bd_s, kI_r, kV_r, kL_r, rZ_1, rZ_0, rZ_b, rI_ite, bI_ite, ite_tf, ite_ft, bI0, bI1, bf_ite, nAdd, nMul, nLt, nEq, nEqM, nMEq, nMLt, nLtM, nMLt0, if_true, if_false, Nat.reduceAdd, Nat.reduceMul, Nat.zero_add, Nat.add_zero, decide_eq_true_eq, decide_true, decide_false, Nat.reduceEqDiff, Nat.reduceLT, Nat.reduceLeDiff, eq_self, Bool.false_eq_true, Bool.true_eq_false, Bool.not_eq_false', Bool.not_eq_true', ite_not, M_r0_2, M_r0_3, M_a1, M_a2]
theorem c_hasSeal {k : Nat} (hk : k < 24) : dN e (d + 2) 180 [.ref b, .int (Int32.ofNat k)] (ov TM 8 b M m) = rI (bI (selB (M.1 2) k)) (ov TM 8 b M m) := by
  refine en180 M_c0 fun t ht => ?_
  obtain ⟨u, rfl⟩ := fu 9 ht rfl
  simp (disch := omega) only [q180_0, q180_1, q180_2, c_box, selB, bd_s, kI_r, kV_r, kL_r, rZ_1, rZ_0, rZ_b, rI_ite, bI_ite, ite_tf, ite_ft, bI0, bI1, bf_ite, nAdd, nMul, nLt, nEq, nEqM, nMEq, nMLt, nLtM, nMLt0, if_true, if_false, Nat.reduceAdd, Nat.reduceMul, Nat.zero_add, Nat.add_zero, decide_eq_true_eq, decide_true, decide_false, Nat.reduceEqDiff, Nat.reduceLT, Nat.reduceLeDiff, eq_self, Bool.false_eq_true, Bool.true_eq_false, Bool.not_eq_false', Bool.not_eq_true', ite_not, M_r0_2, M_r0_3, M_a1, M_a2]
theorem c_due {k : Nat} (hk : k < 24) (hc : okI 0 7 (bx (M.1 2) k 0)) : dN e (d + 2) 181 [.ref b, .int (Int32.ofNat k)] (ov TM 8 b M m) = rI (dueS (M.1 2) (M.1 1) k) (ov TM 8 b M m) := by
  obtain ⟨c, hc1, hc2, -, hc3⟩ := hc.ex
  refine en181 M_c0 fun t ht => ?_
  obtain ⟨u, rfl⟩ := fu 9 ht rfl
  simp (disch := omega) only [q181_0, c_box, hc1, bd_s, kI_r, kV_r, kL_r, rZ_1, rZ_0, rZ_b, rI_ite, bI_ite, ite_tf, ite_ft, bI0, bI1, bf_ite, nAdd, nMul, nLt, nEq, nEqM, nMEq, nMLt, nLtM, nMLt0, if_true, if_false, Nat.reduceAdd, Nat.reduceMul, Nat.zero_add, Nat.add_zero, decide_eq_true_eq, decide_true, decide_false, Nat.reduceEqDiff, Nat.reduceLT, Nat.reduceLeDiff, eq_self, Bool.false_eq_true, Bool.true_eq_false, Bool.not_eq_false', Bool.not_eq_true', ite_not, M_r0_2, M_r0_3, M_a1, M_a2]
  unfold dueS clN
  rw [hc2]
theorem c_hin {k : Nat} (hk : k < 24) (hc : okI 0 7 (bx (M.1 2) k 0)) : dN e (d + 3) 182 [.ref b, .int (Int32.ofNat k)] (ov TM 8 b M m) = rI (hinS (M.1 2) (M.1 1) k) (ov TM 8 b M m) := by
  obtain ⟨c, hc1, hc2, -, hc3⟩ := hc.ex
  have hf : forB (M.1 2) (M.1 1) k = decide (M.1 1 (110 + c) = Int32.ofNat 1) := by unfold forB clN; rw [hc2]
  refine en182 M_c0 fun t ht => ?_
  obtain ⟨u, rfl⟩ := fu 19 ht rfl
  simp (disch := omega) only [q182_0, q182_1, q182_2, q182_3, q182_4, q182_5, q182_6, c_box, c_isGone, c_hasSeal, c_due hk hc, hc1, hinS, hf, bd_s, kI_r, kV_r, kL_r, rZ_1, rZ_0, rZ_b, rI_ite, bI_ite, ite_tf, ite_ft, bI0, bI1, bf_ite, nAdd, nMul, nLt, nEq, nEqM, nMEq, nMLt, nLtM, nMLt0, if_true, if_false, Nat.reduceAdd, Nat.reduceMul, Nat.zero_add, Nat.add_zero, decide_eq_true_eq, decide_true, decide_false, Nat.reduceEqDiff, Nat.reduceLT, Nat.reduceLeDiff, eq_self, Bool.false_eq_true, Bool.true_eq_false, Bool.not_eq_false', Bool.not_eq_true', ite_not, M_r0_2, M_r0_3, M_a1, M_a2]
theorem c_may {k : Nat} (hk : k < 24) (hc : okI 0 7 (bx (M.1 2) k 0)) : dN e (d + 4) 183 [.ref b, .int (Int32.ofNat k)] (ov TM 8 b M m) = rI (bI (mayB (M.1 2) (M.1 1) k)) (ov TM 8 b M m) := by
  refine en183 M_c0 fun t ht => ?_
  obtain ⟨u, rfl⟩ := fu 9 ht rfl
  simp (disch := omega) only [q183_0, q183_1, q183_2, q183_3, c_hin hk hc, bd_s, kI_r, kV_r, kL_r, rZ_1, rZ_0, rZ_b, rI_ite, bI_ite, ite_tf, ite_ft, bI0, bI1, bf_ite, nAdd, nMul, nLt, nEq, nEqM, nMEq, nMLt, nLtM, nMLt0, if_true, if_false, Nat.reduceAdd, Nat.reduceMul, Nat.zero_add, Nat.add_zero, decide_eq_true_eq, decide_true, decide_false, Nat.reduceEqDiff, Nat.reduceLT, Nat.reduceLeDiff, eq_self, Bool.false_eq_true, Bool.true_eq_false, Bool.not_eq_false', Bool.not_eq_true', ite_not, M_r0_2, M_r0_3, M_a1, M_a2]
  unfold mayB
  by_cases h0 : hinS (M.1 2) (M.1 1) k = Int32.ofNat 0
  · simp [h0]
  · by_cases h5 : hinS (M.1 2) (M.1 1) k = Int32.ofNat 5 <;> simp [h0, h5]
theorem c_isL {x : Int32} (W : okI 0 24 (M.1 2 2)) : dN e (d + 1) 184 [.ref b, .int x] (ov TM 8 b M m) = rI (bI (isLB (M.1 2) x)) (ov TM 8 b M m) := by
  obtain ⟨n, hb, hn0, -, hn⟩ := W.ex
  refine en184 M_c0 fun t ht => ?_
  obtain ⟨u, rfl⟩ := fu 1 ht rfl
  rw [q184_0]
  unfold isLB
  rw [show nlS (M.1 2) = n from hn0]
  refine lp_any (c := 2) (n := n) (G := fun t k => runL e (dN e d) 184 t 1 [some (.ref b), some (.int (x)), some (.int (Int32.ofNat k))] [] (ov TM 8 b M m)) ?_ ?_ ?_ u (by omega)
  · intro t k hk hp
    have hp : ¬ (M.1 2 (3 + k) = x) := of_decide_eq_false hp
    simp (disch := omega) only [q184_1, q184_2, q184_3, hb, hk, hp, bd_s, kI_r, kV_r, kL_r, rZ_1, rZ_0, rZ_b, rI_ite, bI_ite, ite_tf, ite_ft, bI0, bI1, bf_ite, nAdd, nMul, nLt, nEq, nEqM, nMEq, nMLt, nLtM, nMLt0, if_true, if_false, Nat.reduceAdd, Nat.reduceMul, Nat.zero_add, Nat.add_zero, decide_eq_true_eq, decide_true, decide_false, Nat.reduceEqDiff, Nat.reduceLT, Nat.reduceLeDiff, eq_self, Bool.false_eq_true, Bool.true_eq_false, Bool.not_eq_false', Bool.not_eq_true', ite_not, M_r0_2, M_r0_3, M_a1, M_a2]
  · intro t k hk hp
    have hp : M.1 2 (3 + k) = x := of_decide_eq_true hp
    simp (disch := omega) only [q184_1, q184_2, q184_3, hb, hk, hp, bd_s, kI_r, kV_r, kL_r, rZ_1, rZ_0, rZ_b, rI_ite, bI_ite, ite_tf, ite_ft, bI0, bI1, bf_ite, nAdd, nMul, nLt, nEq, nEqM, nMEq, nMLt, nLtM, nMLt0, if_true, if_false, Nat.reduceAdd, Nat.reduceMul, Nat.zero_add, Nat.add_zero, decide_eq_true_eq, decide_true, decide_false, Nat.reduceEqDiff, Nat.reduceLT, Nat.reduceLeDiff, eq_self, Bool.false_eq_true, Bool.true_eq_false, Bool.not_eq_false', Bool.not_eq_true', ite_not, M_r0_2, M_r0_3, M_a1, M_a2]
  · intro t
    simp (disch := omega) only [q184_1, q184_2, q184_3, hb, Nat.lt_irrefl, bd_s, kI_r, kV_r, kL_r, rZ_1, rZ_0, rZ_b, rI_ite, bI_ite, ite_tf, ite_ft, bI0, bI1, bf_ite, nAdd, nMul, nLt, nEq, nEqM, nMEq, nMLt, nLtM, nMLt0, if_true, if_false, Nat.reduceAdd, Nat.reduceMul, Nat.zero_add, Nat.add_zero, decide_eq_true_eq, decide_true, decide_false, Nat.reduceEqDiff, Nat.reduceLT, Nat.reduceLeDiff, eq_self, Bool.false_eq_true, Bool.true_eq_false, Bool.not_eq_false', Bool.not_eq_true', ite_not, M_r0_2, M_r0_3, M_a1, M_a2]
theorem c_loans {r : Int32} (W : okI 0 24 (M.1 2 1)) : dN e (d + 2) 189 [.ref b, .int r] (ov TM 8 b M m) = rI (Int32.ofNat (lonN (M.1 2) r)) (ov TM 8 b M m) := by
  obtain ⟨n, hb, hn0, -, hn⟩ := W.ex
  refine en189 M_c0 fun t ht => ?_
  obtain ⟨u, rfl⟩ := fu 1 ht rfl
  rw [q189_0]
  unfold lonN
  rw [show nbS (M.1 2) = n from hn0]
  refine lp_up2 (c := 4) (n := n) (G := fun t k => runL e (dN e (d + 1)) 189 t 1 [some (.ref b), some (.int (r)), some (.int (Int32.ofNat (cnt (fun k => decide (bx (M.1 2) k 5 = r)) k))), some (.int (Int32.ofNat k))] [] (ov TM 8 b M m)) (fun k hk => ?_) (fun t => ?_) u (by omega)
  · cases hp : (fun k => decide (bx (M.1 2) k 5 = r)) k with
    | true =>
      have hp' : bx (M.1 2) k 5 = r := of_decide_eq_true hp
      refine ⟨2, by omega, fun t => ?_⟩
      simp (disch := omega) only [q189_1, q189_2, q189_3, q189_4, c_box, hb, hk, hp', cnt_t (p := fun k => decide (bx (M.1 2) k 5 = r)) (k := k) hp, c_flag1, c_flag0, bd_s, kI_r, kV_r, kL_r, rZ_1, rZ_0, rZ_b, rI_ite, bI_ite, ite_tf, ite_ft, bI0, bI1, bf_ite, nAdd, nMul, nLt, nEq, nEqM, nMEq, nMLt, nLtM, nMLt0, if_true, if_false, Nat.reduceAdd, Nat.reduceMul, Nat.zero_add, Nat.add_zero, decide_eq_true_eq, decide_true, decide_false, Nat.reduceEqDiff, Nat.reduceLT, Nat.reduceLeDiff, eq_self, Bool.false_eq_true, Bool.true_eq_false, Bool.not_eq_false', Bool.not_eq_true', ite_not, M_r0_2, M_r0_3, M_a1, M_a2]
    | false =>
      have hp' : ¬ (bx (M.1 2) k 5 = r) := of_decide_eq_false hp
      refine ⟨3, by omega, fun t => ?_⟩
      simp (disch := omega) only [q189_1, q189_2, q189_3, q189_4, c_box, hb, hk, hp', cnt_f (p := fun k => decide (bx (M.1 2) k 5 = r)) (k := k) hp, c_flag1, c_flag0, bd_s, kI_r, kV_r, kL_r, rZ_1, rZ_0, rZ_b, rI_ite, bI_ite, ite_tf, ite_ft, bI0, bI1, bf_ite, nAdd, nMul, nLt, nEq, nEqM, nMEq, nMLt, nLtM, nMLt0, if_true, if_false, Nat.reduceAdd, Nat.reduceMul, Nat.zero_add, Nat.add_zero, decide_eq_true_eq, decide_true, decide_false, Nat.reduceEqDiff, Nat.reduceLT, Nat.reduceLeDiff, eq_self, Bool.false_eq_true, Bool.true_eq_false, Bool.not_eq_false', Bool.not_eq_true', ite_not, M_r0_2, M_r0_3, M_a1, M_a2]
  · simp (disch := omega) only [q189_1, q189_2, q189_3, q189_4, c_box, hb, Nat.lt_irrefl, bd_s, kI_r, kV_r, kL_r, rZ_1, rZ_0, rZ_b, rI_ite, bI_ite, ite_tf, ite_ft, bI0, bI1, bf_ite, nAdd, nMul, nLt, nEq, nEqM, nMEq, nMLt, nLtM, nMLt0, if_true, if_false, Nat.reduceAdd, Nat.reduceMul, Nat.zero_add, Nat.add_zero, decide_eq_true_eq, decide_true, decide_false, Nat.reduceEqDiff, Nat.reduceLT, Nat.reduceLeDiff, eq_self, Bool.false_eq_true, Bool.true_eq_false, Bool.not_eq_false', Bool.not_eq_true', ite_not, M_r0_2, M_r0_3, M_a1, M_a2]
theorem c_mayH {r : Int32} (W : okI 0 24 (M.1 2 1)) (hr : okI 0 5 r) : dN e (d + 3) 190 [.ref b, .int r] (ov TM 8 b M m) = rI (bI (mayH (M.1 2) (M.1 1) r)) (ov TM 8 b M m) := by
  obtain ⟨c, hc1, hc2, -, hc3⟩ := hr.ex
  refine en190 M_c0 fun t ht => ?_
  obtain ⟨u, rfl⟩ := fu 9 ht rfl
  subst hc1
  simp (disch := omega) only [q190_0, q190_1, q190_2, c_loans W, mayH, hc2, bd_s, kI_r, kV_r, kL_r, rZ_1, rZ_0, rZ_b, rI_ite, bI_ite, ite_tf, ite_ft, bI0, bI1, bf_ite, nAdd, nMul, nLt, nEq, nEqM, nMEq, nMLt, nLtM, nMLt0, if_true, if_false, Nat.reduceAdd, Nat.reduceMul, Nat.zero_add, Nat.add_zero, decide_eq_true_eq, decide_true, decide_false, Nat.reduceEqDiff, Nat.reduceLT, Nat.reduceLeDiff, eq_self, Bool.false_eq_true, Bool.true_eq_false, Bool.not_eq_false', Bool.not_eq_true', ite_not, M_r0_2, M_r0_3, M_a1, M_a2]
theorem c_wt {r : Int32} {k : Nat} (hk : k < 24) (W : okI 0 3 (bx (M.1 2) k 8)) : dN e (d + 2) 191 [.ref b, .int r, .int (Int32.ofNat k)] (ov TM 8 b M m) = rI (bI (wtB (M.1 2) r k)) (ov TM 8 b M m) := by
  obtain ⟨n, hb, hn0, -, hn⟩ := W.ex
  refine en191 M_c0 fun t ht => ?_
  obtain ⟨u, rfl⟩ := fu 1 ht rfl
  rw [q191_0]
  unfold wtB
  rw [hn0]
  refine lp_any (c := 2) (n := n) (G := fun t i => runL e (dN e (d + 1)) 191 t 1 [some (.ref b), some (.int (r)), some (.int (Int32.ofNat k)), some (.int (Int32.ofNat i))] [] (ov TM 8 b M m)) ?_ ?_ ?_ u (by omega)
  · intro t i hi hp
    have hp : ¬ (bx (M.1 2) k (9 + i) = r) := of_decide_eq_false hp
    simp (disch := omega) only [q191_1, q191_2, q191_3, c_box, hb, hi, hp, bd_s, kI_r, kV_r, kL_r, rZ_1, rZ_0, rZ_b, rI_ite, bI_ite, ite_tf, ite_ft, bI0, bI1, bf_ite, nAdd, nMul, nLt, nEq, nEqM, nMEq, nMLt, nLtM, nMLt0, if_true, if_false, Nat.reduceAdd, Nat.reduceMul, Nat.zero_add, Nat.add_zero, decide_eq_true_eq, decide_true, decide_false, Nat.reduceEqDiff, Nat.reduceLT, Nat.reduceLeDiff, eq_self, Bool.false_eq_true, Bool.true_eq_false, Bool.not_eq_false', Bool.not_eq_true', ite_not, M_r0_2, M_r0_3, M_a1, M_a2]
  · intro t i hi hp
    have hp : bx (M.1 2) k (9 + i) = r := of_decide_eq_true hp
    simp (disch := omega) only [q191_1, q191_2, q191_3, c_box, hb, hi, hp, bd_s, kI_r, kV_r, kL_r, rZ_1, rZ_0, rZ_b, rI_ite, bI_ite, ite_tf, ite_ft, bI0, bI1, bf_ite, nAdd, nMul, nLt, nEq, nEqM, nMEq, nMLt, nLtM, nMLt0, if_true, if_false, Nat.reduceAdd, Nat.reduceMul, Nat.zero_add, Nat.add_zero, decide_eq_true_eq, decide_true, decide_false, Nat.reduceEqDiff, Nat.reduceLT, Nat.reduceLeDiff, eq_self, Bool.false_eq_true, Bool.true_eq_false, Bool.not_eq_false', Bool.not_eq_true', ite_not, M_r0_2, M_r0_3, M_a1, M_a2]
  · intro t
    simp (disch := omega) only [q191_1, q191_2, q191_3, c_box, hb, Nat.lt_irrefl, bd_s, kI_r, kV_r, kL_r, rZ_1, rZ_0, rZ_b, rI_ite, bI_ite, ite_tf, ite_ft, bI0, bI1, bf_ite, nAdd, nMul, nLt, nEq, nEqM, nMEq, nMLt, nLtM, nMLt0, if_true, if_false, Nat.reduceAdd, Nat.reduceMul, Nat.zero_add, Nat.add_zero, decide_eq_true_eq, decide_true, decide_false, Nat.reduceEqDiff, Nat.reduceLT, Nat.reduceLeDiff, eq_self, Bool.false_eq_true, Bool.true_eq_false, Bool.not_eq_false', Bool.not_eq_true', ite_not, M_r0_2, M_r0_3, M_a1, M_a2]
theorem c_obs {r : Int32} {k : Nat} (hk : k < 24) (hc : okI 0 7 (bx (M.1 2) k 0)) (W : okI 0 3 (bx (M.1 2) k 8)) : dN e (d + 3) 192 [.ref b, .int r, .int (Int32.ofNat k)] (ov TM 8 b M m) = rI (obsS (M.1 2) (M.1 1) r k) (ov TM 8 b M m) := by
  obtain ⟨c, hc1, hc2, -, hc3⟩ := hc.ex
  refine en192 M_c0 fun t ht => ?_
  obtain ⟨u, rfl⟩ := fu 19 ht rfl
  unfold obsS clN
  rw [hc2]
  simp (disch := omega) only [q192_0, q192_1, q192_2, q192_3, q192_4, q192_5, q192_6, q192_7, c_box, c_isGone, c_hasSeal, c_wt hk W, hc1, bd_s, kI_r, kV_r, kL_r, rZ_1, rZ_0, rZ_b, rI_ite, bI_ite, ite_tf, ite_ft, bI0, bI1, bf_ite, nAdd, nMul, nLt, nEq, nEqM, nMEq, nMLt, nLtM, nMLt0, if_true, if_false, Nat.reduceAdd, Nat.reduceMul, Nat.zero_add, Nat.add_zero, decide_eq_true_eq, decide_true, decide_false, Nat.reduceEqDiff, Nat.reduceLT, Nat.reduceLeDiff, eq_self, Bool.false_eq_true, Bool.true_eq_false, Bool.not_eq_false', Bool.not_eq_true', ite_not, M_r0_2, M_r0_3, M_a1, M_a2]
theorem c_lends {r : Int32} {k : Nat} (he : e.1 ≤ b) (hk : k < 24) : dN e (d + 2) 193 [.ref b, .int (Int32.ofNat k), .int r] (ov TM 8 b M m) = some (.inl none, (ov TM 8 b (uA M 2 (lndS (M.1 2) k r)) m)) := by
  refine en193 M_c0 fun t ht => ?_
  obtain ⟨u, rfl⟩ := fu 9 ht rfl
  simp (disch := omega) only [q193_0, c_lays he, uA_s, uA_uA, lay_lo, bd_s, kI_r, kV_r, kL_r, rZ_1, rZ_0, rZ_b, rI_ite, bI_ite, ite_tf, ite_ft, bI0, bI1, bf_ite, nAdd, nMul, nLt, nEq, nEqM, nMEq, nMLt, nLtM, nMLt0, if_true, if_false, Nat.reduceAdd, Nat.reduceMul, Nat.zero_add, Nat.add_zero, decide_eq_true_eq, decide_true, decide_false, Nat.reduceEqDiff, Nat.reduceLT, Nat.reduceLeDiff, eq_self, Bool.false_eq_true, Bool.true_eq_false, Bool.not_eq_false', Bool.not_eq_true', ite_not, M_r0_2, M_r0_3, M_a1, M_a2]
  rfl
theorem c_req {r : Int32} {k : Nat} (he : e.1 ≤ b) (hk : k < 24) (W : okI 0 24 (M.1 2 1)) (hr : okI 0 5 r) (V : okI 0 3 (bx (M.1 2) k 8)) (hv : nN (bx (M.1 2) k 8) ≠ 3 ∨ reqB (M.1 2) (M.1 1) r k = true) : dN e (d + 4) 194 [.ref b, .int r, .int (Int32.ofNat k)] (ov TM 8 b M m) = rI (bI (reqB (M.1 2) (M.1 1) r k)) (ov TM 8 b (uA M 2 (reqS (M.1 2) (M.1 1) r k)) m) := by
  obtain ⟨c, hc1, hc2, -, hc3⟩ := V.ex
  refine en194 M_c0 fun t ht => ?_
  obtain ⟨u, rfl⟩ := fu 19 ht rfl
  unfold reqS
  by_cases h0 : bx (M.1 2) k 5 = nM1
  · cases h1 : mayH (M.1 2) (M.1 1) r with
    | true =>
      have h2 : reqB (M.1 2) (M.1 1) r k = true := by unfold reqB; rw [h0, h1]; rfl
      rw [h2]
      simp (disch := omega) only [q194_0, q194_1, c_box, c_mayH W hr, h0, h1, c_lends he hk, cond_true, bd_s, kI_r, kV_r, kL_r, rZ_1, rZ_0, rZ_b, rI_ite, bI_ite, ite_tf, ite_ft, bI0, bI1, bf_ite, nAdd, nMul, nLt, nEq, nEqM, nMEq, nMLt, nLtM, nMLt0, if_true, if_false, Nat.reduceAdd, Nat.reduceMul, Nat.zero_add, Nat.add_zero, decide_eq_true_eq, decide_true, decide_false, Nat.reduceEqDiff, Nat.reduceLT, Nat.reduceLeDiff, eq_self, Bool.false_eq_true, Bool.true_eq_false, Bool.not_eq_false', Bool.not_eq_true', ite_not, M_r0_2, M_r0_3, M_a1, M_a2]
    | false =>
      have h2 : reqB (M.1 2) (M.1 1) r k = false := by unfold reqB; rw [h1, Bool.and_false]
      have h3 : c ≠ 3 := by rw [h2] at hv; simp at hv; omega
      rw [h2]
      simp (disch := omega) only [q194_0, q194_1, c_box, c_mayH W hr, h0, h1, hc1, c_lays he, lay_n, uA_s, uA_uA, cond_false, queS, nN_o, bd_s, kI_r, kV_r, kL_r, rZ_1, rZ_0, rZ_b, rI_ite, bI_ite, ite_tf, ite_ft, bI0, bI1, bf_ite, nAdd, nMul, nLt, nEq, nEqM, nMEq, nMLt, nLtM, nMLt0, if_true, if_false, Nat.reduceAdd, Nat.reduceMul, Nat.zero_add, Nat.add_zero, decide_eq_true_eq, decide_true, decide_false, Nat.reduceEqDiff, Nat.reduceLT, Nat.reduceLeDiff, eq_self, Bool.false_eq_true, Bool.true_eq_false, Bool.not_eq_false', Bool.not_eq_true', ite_not, M_r0_2, M_r0_3, M_a1, M_a2]
  · have h2 : reqB (M.1 2) (M.1 1) r k = false := by unfold reqB; simp [h0]
    have h3 : c ≠ 3 := by rw [h2] at hv; simp at hv; omega
    rw [h2]
    simp (disch := omega) only [q194_0, q194_1, c_box, h0, hc1, c_lays he, lay_n, uA_s, uA_uA, cond_false, queS, nN_o, bd_s, kI_r, kV_r, kL_r, rZ_1, rZ_0, rZ_b, rI_ite, bI_ite, ite_tf, ite_ft, bI0, bI1, bf_ite, nAdd, nMul, nLt, nEq, nEqM, nMEq, nMLt, nLtM, nMLt0, if_true, if_false, Nat.reduceAdd, Nat.reduceMul, Nat.zero_add, Nat.add_zero, decide_eq_true_eq, decide_true, decide_false, Nat.reduceEqDiff, Nat.reduceLT, Nat.reduceLeDiff, eq_self, Bool.false_eq_true, Bool.true_eq_false, Bool.not_eq_false', Bool.not_eq_true', ite_not, M_r0_2, M_r0_3, M_a1, M_a2]
theorem c_leaves {k p : Nat} (he : e.1 ≤ b) (hk : k < 24) (V : okI 0 3 (bx (M.1 2) k 8)) (hp : p < nN (bx (M.1 2) k 8)) : dN e (d + 2) 195 [.ref b, .int (Int32.ofNat k), .int (Int32.ofNat p)] (ov TM 8 b M m) = some (.inl none, (ov TM 8 b (uA M 2 (lvS (M.1 2) k p)) m)) := by
  obtain ⟨w, hw1, hw2, -, hw3⟩ := V.ex
  rw [hw2] at hp
  refine en195 M_c0 fun t ht => ?_
  obtain ⟨u, rfl⟩ := fu 1 ht rfl
  unfold lvS
  rw [hw2]
  have hr : ∀ i, i ≤ w - 1 - p → bx (upF (shfF k p) i (lay (M.1 2) k 8 (Int32.ofNat (w - 1)))) k 8 = Int32.ofNat (w - 1) := by
    refine upF_inv (P := fun t => bx t k 8 = Int32.ofNat (w - 1)) ?_ ?_
    · rw [bx_lay (by omega) (by omega)]
      simp
    · intro i t hi ht
      unfold shfF
      rw [bx_lay (by omega) (by omega), if_neg (by omega)]
      exact ht
  have key : ∀ u, 100 ≤ u → runL e (dN e (d + 1)) 195 u 1 [some (.ref b), some (.int (Int32.ofNat k)), none, some (.int (Int32.ofNat p))] [] (ov TM 8 b (uA M 2 (lay (M.1 2) k 8 (Int32.ofNat (w - 1)))) m) = some (.inl none, (ov TM 8 b (uA M 2 (upF (shfF k p) (w - 1 - p) (lay (M.1 2) k 8 (Int32.ofNat (w - 1))))) m)) := by
    intro u hu
    refine lp_up2 (c := 2) (n := w - 1 - p) (G := fun t i => runL e (dN e (d + 1)) 195 t 1 [some (.ref b), some (.int (Int32.ofNat k)), none, some (.int (Int32.ofNat (p + i)))] [] (ov TM 8 b (uA M 2 (upF (shfF k p) i (lay (M.1 2) k 8 (Int32.ofNat (w - 1))))) m)) (fun i hi => ⟨1, by omega, fun t => ?_⟩) (fun t => ?_) u (by omega)
    · have h1 : p + i < w - 1 := by omega
      rw [upF_s]
      simp (disch := omega) only [q195_1, c_box, c_lays he, uA_s, uA_uA, hr i (by omega), h1, Nat.add_assoc, bd_s, kI_r, kV_r, kL_r, rZ_1, rZ_0, rZ_b, rI_ite, bI_ite, ite_tf, ite_ft, bI0, bI1, bf_ite, nAdd, nMul, nLt, nEq, nEqM, nMEq, nMLt, nLtM, nMLt0, if_true, if_false, Nat.reduceAdd, Nat.reduceMul, Nat.zero_add, Nat.add_zero, decide_eq_true_eq, decide_true, decide_false, Nat.reduceEqDiff, Nat.reduceLT, Nat.reduceLeDiff, eq_self, Bool.false_eq_true, Bool.true_eq_false, Bool.not_eq_false', Bool.not_eq_true', ite_not, M_r0_2, M_r0_3, M_a1, M_a2]
      rfl
    · have h1 : p + (w - 1 - p) = w - 1 := by omega
      simp (disch := omega) only [q195_1, q195_2, c_box, uA_s, hr _ (Nat.le_refl _), h1, Nat.lt_irrefl, bd_s, kI_r, kV_r, kL_r, rZ_1, rZ_0, rZ_b, rI_ite, bI_ite, ite_tf, ite_ft, bI0, bI1, bf_ite, nAdd, nMul, nLt, nEq, nEqM, nMEq, nMLt, nLtM, nMLt0, if_true, if_false, Nat.reduceAdd, Nat.reduceMul, Nat.zero_add, Nat.add_zero, decide_eq_true_eq, decide_true, decide_false, Nat.reduceEqDiff, Nat.reduceLT, Nat.reduceLeDiff, eq_self, Bool.false_eq_true, Bool.true_eq_false, Bool.not_eq_false', Bool.not_eq_true', ite_not, M_r0_2, M_r0_3, M_a1, M_a2]
  simp (disch := omega) only [q195_0, c_box, c_lays he, hw1, nSub, bd_s, kI_r, kV_r, kL_r, rZ_1, rZ_0, rZ_b, rI_ite, bI_ite, ite_tf, ite_ft, bI0, bI1, bf_ite, nAdd, nMul, nLt, nEq, nEqM, nMEq, nMLt, nLtM, nMLt0, if_true, if_false, Nat.reduceAdd, Nat.reduceMul, Nat.zero_add, Nat.add_zero, decide_eq_true_eq, decide_true, decide_false, Nat.reduceEqDiff, Nat.reduceLT, Nat.reduceLeDiff, eq_self, Bool.false_eq_true, Bool.true_eq_false, Bool.not_eq_false', Bool.not_eq_true', ite_not, M_r0_2, M_r0_3, M_a1, M_a2]
  exact key _ (by omega)
end
end

/-! ===== the reference's lists (printed by wip/whole/mod3.py) ===== -/
noncomputable section
section
variable {e : dEnv} {d b : Nat} {M : bX} {m : dMem}
theorem oI_M {k : Nat} {x : Option Nat} (h : ∀ j, x = some j → j < k) (hk : k ≤ 24) : (oI x = nM1) = (x = none) := by
  cases x with
  | none => simp [oI]
  | some j =>
    have := h j rfl
    show (Int32.ofNat j = nM1) = _
    rw [nEqM (by omega)]
    simp
theorem c_first {Y : Nat} (W : WS Y (M.1 1) (M.1 2)) : dN e (d + 5) 185 [.ref b] (ov TM 8 b M m) = rI (oI (ftlK (M.1 2) (M.1 1) (nbS (M.1 2)))) (ov TM 8 b M m) := by
  obtain ⟨n, hb, hn0, -, hn⟩ := W.1.ex
  have hC : ∀ k, k < n → okI 0 7 (bx (M.1 2) k 0) := fun k hk => (W.2.2.2.1 k (by unfold nbS; omega)).1
  refine en185 M_c0 fun t ht => ?_
  obtain ⟨u, rfl⟩ := fu 1 ht rfl
  rw [q185_0]
  rw [show nbS (M.1 2) = n from hn0]
  refine lp_up2 (c := 5) (n := n) (G := fun t k => runL e (dN e (d + 4)) 185 t 1 [some (.ref b), some (.int (oI (ftlK (M.1 2) (M.1 1) k))), some (.int (Int32.ofNat k)), none] [] (ov TM 8 b M m)) (fun k hk => ?_) (fun t => ?_) u (by omega)
  · have hck := hC k hk
    have hk' : k < 24 := by omega
    show ∃ c', c' ≤ 5 ∧ ∀ t, runL e (dN e (d + 4)) 185 (t + c') 1 [some (.ref b), some (.int (oI (ftlK (M.1 2) (M.1 1) k))), some (.int (Int32.ofNat k)), none] [] (ov TM 8 b M m) = runL e (dN e (d + 4)) 185 t 1 [some (.ref b), some (.int (oI (bif mayB (M.1 2) (M.1 1) k && !isLB (M.1 2) (Int32.ofNat k) then (match ftlK (M.1 2) (M.1 1) k with | none => some k | some j => if dueS (M.1 2) (M.1 1) k < dueS (M.1 2) (M.1 1) j then some k else some j) else ftlK (M.1 2) (M.1 1) k))), some (.int (Int32.ofNat (k + 1))), none] [] (ov TM 8 b M m)
    cases hm : mayB (M.1 2) (M.1 1) k with
    | false =>
      refine ⟨5, by omega, fun t => ?_⟩
      simp only [Bool.false_and, cond_false]
      simp (disch := omega) only [q185_1, q185_3, q185_4, q185_5, q185_6, hb, hk, c_may hk' hck, hm, bd_s, kI_r, kV_r, kL_r, rZ_1, rZ_0, rZ_b, rI_ite, bI_ite, ite_tf, ite_ft, bI0, bI1, bf_ite, nAdd, nMul, nLt, nEq, nEqM, nMEq, nMLt, nLtM, nMLt0, if_true, if_false, Nat.reduceAdd, Nat.reduceMul, Nat.zero_add, Nat.add_zero, decide_eq_true_eq, decide_true, decide_false, Nat.reduceEqDiff, Nat.reduceLT, Nat.reduceLeDiff, eq_self, Bool.false_eq_true, Bool.true_eq_false, Bool.not_eq_false', Bool.not_eq_true', ite_not, uA_s, uA_n, uA_uA, M_r0_2, M_r0_3, M_a1, M_a2]
    | true =>
    cases hl : isLB (M.1 2) (Int32.ofNat k) with
    | true =>
      refine ⟨5, by omega, fun t => ?_⟩
      simp only [Bool.true_and, Bool.not_true, cond_false]
      simp (disch := omega) only [q185_1, q185_3, q185_4, q185_5, q185_6, hb, hk, c_may hk' hck, c_isL W.2.1, hm, hl, bd_s, kI_r, kV_r, kL_r, rZ_1, rZ_0, rZ_b, rI_ite, bI_ite, ite_tf, ite_ft, bI0, bI1, bf_ite, nAdd, nMul, nLt, nEq, nEqM, nMEq, nMLt, nLtM, nMLt0, if_true, if_false, Nat.reduceAdd, Nat.reduceMul, Nat.zero_add, Nat.add_zero, decide_eq_true_eq, decide_true, decide_false, Nat.reduceEqDiff, Nat.reduceLT, Nat.reduceLeDiff, eq_self, Bool.false_eq_true, Bool.true_eq_false, Bool.not_eq_false', Bool.not_eq_true', ite_not, uA_s, uA_n, uA_uA, M_r0_2, M_r0_3, M_a1, M_a2]
    | false =>
    simp only [Bool.true_and, Bool.not_false, cond_true]
    cases hf : ftlK (M.1 2) (M.1 1) k with
    | none =>
      refine ⟨4, by omega, fun t => ?_⟩
      simp only [oI_n, oI_s]
      simp (disch := omega) only [q185_1, q185_2, q185_4, q185_6, hb, hk, c_may hk' hck, c_isL W.2.1, hm, hl, bd_s, kI_r, kV_r, kL_r, rZ_1, rZ_0, rZ_b, rI_ite, bI_ite, ite_tf, ite_ft, bI0, bI1, bf_ite, nAdd, nMul, nLt, nEq, nEqM, nMEq, nMLt, nLtM, nMLt0, if_true, if_false, Nat.reduceAdd, Nat.reduceMul, Nat.zero_add, Nat.add_zero, decide_eq_true_eq, decide_true, decide_false, Nat.reduceEqDiff, Nat.reduceLT, Nat.reduceLeDiff, eq_self, Bool.false_eq_true, Bool.true_eq_false, Bool.not_eq_false', Bool.not_eq_true', ite_not, uA_s, uA_n, uA_uA, M_r0_2, M_r0_3, M_a1, M_a2]
    | some j =>
      have hj := ftlK_lt hf
      have hcj := hC j (by omega)
      have hj' : j < 24 := by omega
      by_cases hd : dueS (M.1 2) (M.1 1) k < dueS (M.1 2) (M.1 1) j
      · refine ⟨4, by omega, fun t => ?_⟩
        simp only [hd, if_true, oI_s]
        simp (disch := omega) only [q185_1, q185_2, q185_4, q185_6, hb, hk, c_may hk' hck, c_isL W.2.1, hm, hl, c_due hk' hck, c_due hj' hcj, hd, bd_s, kI_r, kV_r, kL_r, rZ_1, rZ_0, rZ_b, rI_ite, bI_ite, ite_tf, ite_ft, bI0, bI1, bf_ite, nAdd, nMul, nLt, nEq, nEqM, nMEq, nMLt, nLtM, nMLt0, if_true, if_false, Nat.reduceAdd, Nat.reduceMul, Nat.zero_add, Nat.add_zero, decide_eq_true_eq, decide_true, decide_false, Nat.reduceEqDiff, Nat.reduceLT, Nat.reduceLeDiff, eq_self, Bool.false_eq_true, Bool.true_eq_false, Bool.not_eq_false', Bool.not_eq_true', ite_not, uA_s, uA_n, uA_uA, M_r0_2, M_r0_3, M_a1, M_a2]
      · refine ⟨5, by omega, fun t => ?_⟩
        simp only [hd, if_false, oI_s]
        simp (disch := omega) only [q185_1, q185_3, q185_4, q185_5, q185_6, hb, hk, c_may hk' hck, c_isL W.2.1, hm, hl, c_due hk' hck, c_due hj' hcj, hd, bd_s, kI_r, kV_r, kL_r, rZ_1, rZ_0, rZ_b, rI_ite, bI_ite, ite_tf, ite_ft, bI0, bI1, bf_ite, nAdd, nMul, nLt, nEq, nEqM, nMEq, nMLt, nLtM, nMLt0, if_true, if_false, Nat.reduceAdd, Nat.reduceMul, Nat.zero_add, Nat.add_zero, decide_eq_true_eq, decide_true, decide_false, Nat.reduceEqDiff, Nat.reduceLT, Nat.reduceLeDiff, eq_self, Bool.false_eq_true, Bool.true_eq_false, Bool.not_eq_false', Bool.not_eq_true', ite_not, uA_s, uA_n, uA_uA, M_r0_2, M_r0_3, M_a1, M_a2]
  · simp (disch := omega) only [q185_1, q185_7, hb, Nat.lt_irrefl, bd_s, kI_r, kV_r, kL_r, rZ_1, rZ_0, rZ_b, rI_ite, bI_ite, ite_tf, ite_ft, bI0, bI1, bf_ite, nAdd, nMul, nLt, nEq, nEqM, nMEq, nMLt, nLtM, nMLt0, if_true, if_false, Nat.reduceAdd, Nat.reduceMul, Nat.zero_add, Nat.add_zero, decide_eq_true_eq, decide_true, decide_false, Nat.reduceEqDiff, Nat.reduceLT, Nat.reduceLeDiff, eq_self, Bool.false_eq_true, Bool.true_eq_false, Bool.not_eq_false', Bool.not_eq_true', ite_not, uA_s, uA_n, uA_uA, M_r0_2, M_r0_3, M_a1, M_a2]
theorem c_lists {Y : Nat} (he : e.1 ≤ b) (W : WS Y (M.1 1) (M.1 2)) : dN e (d + 6) 186 [.ref b] (ov TM 8 b M m) = some (.inl none, (ov TM 8 b (uA M 2 (listsS (M.1 2) (M.1 1))) m)) := by
  have W0 := WS_nl0 W
  have key : ∀ (n : Nat) (s : sV), WS Y (M.1 1) s → nlS s + muS s (M.1 1) ≤ 24 → muS s (M.1 1) ≤ n → ∀ v, 2 * (n + 1) ≤ v → runL e (dN e (d + 5)) 186 v 1 [some (.ref b), some (.int (oI (ftlK s (M.1 1) (nbS s))))] [] (ov TM 8 b (uA M 2 s) m) = some (.inl none, ov TM 8 b (uA M 2 (lisK (M.1 1) n s)) m) := by
    intro n
    induction n with
    | zero =>
      intro s Ws hm1 hm2 v hv
      obtain ⟨v, rfl⟩ : ∃ v', v = v' + 2 := ⟨v - 2, by omega⟩
      have hf : ftlK s (M.1 1) (nbS s) = none := by
        cases hf : ftlK s (M.1 1) (nbS s) with
        | none => rfl
        | some k =>
          obtain ⟨f1, f2, -, -⟩ := ftl_some hf
          have : 0 < muS s (M.1 1) := cnt_pos f1 f2
          omega
      rw [hf, oI_n]
      simp (disch := omega) only [q186_1, q186_2, bd_s, kI_r, kV_r, kL_r, rZ_1, rZ_0, rZ_b, rI_ite, bI_ite, ite_tf, ite_ft, bI0, bI1, bf_ite, nAdd, nMul, nLt, nEq, nEqM, nMEq, nMLt, nLtM, nMLt0, if_true, if_false, Nat.reduceAdd, Nat.reduceMul, Nat.zero_add, Nat.add_zero, decide_eq_true_eq, decide_true, decide_false, Nat.reduceEqDiff, Nat.reduceLT, Nat.reduceLeDiff, eq_self, Bool.false_eq_true, Bool.true_eq_false, Bool.not_eq_false', Bool.not_eq_true', ite_not, uA_s, uA_n, uA_uA, M_r0_2, M_r0_3, M_a1, M_a2]
      rfl
    | succ n ih =>
      intro s Ws hm1 hm2 v hv
      unfold lisK
      cases hf : ftlK s (M.1 1) (nbS s) with
      | none =>
        obtain ⟨v, rfl⟩ : ∃ v', v = v' + 2 := ⟨v - 2, by omega⟩
        rw [oI_n]
        simp (disch := omega) only [q186_1, q186_2, bd_s, kI_r, kV_r, kL_r, rZ_1, rZ_0, rZ_b, rI_ite, bI_ite, ite_tf, ite_ft, bI0, bI1, bf_ite, nAdd, nMul, nLt, nEq, nEqM, nMEq, nMLt, nLtM, nMLt0, if_true, if_false, Nat.reduceAdd, Nat.reduceMul, Nat.zero_add, Nat.add_zero, decide_eq_true_eq, decide_true, decide_false, Nat.reduceEqDiff, Nat.reduceLT, Nat.reduceLeDiff, eq_self, Bool.false_eq_true, Bool.true_eq_false, Bool.not_eq_false', Bool.not_eq_true', ite_not, uA_s, uA_n, uA_uA, M_r0_2, M_r0_3, M_a1, M_a2]
      | some k =>
        obtain ⟨v, rfl⟩ : ∃ v', v = v' + 1 := ⟨v - 1, by omega⟩
        obtain ⟨f1, f2, -, -⟩ := ftl_some hf
        have hp : 0 < muS s (M.1 1) := cnt_pos f1 f2
        have hl : nlS s < 24 := by omega
        have hmu := mu_add hl f1 f2
        have hnb : nbS s ≤ 24 := Ws.1.2.2
        have ih := ih (addL s k) (WS_add Ws hl f1 f2) (by rw [add_nl hl]; omega) (by omega) v (by omega)
        obtain ⟨l, l1, l2, -, l4⟩ := Ws.2.1.ex
        have l5 : nlS s = l := l2
        have e1 : addL s k = wr (wr s (3 + l) (Int32.ofNat k)) 2 (Int32.ofNat (l + 1)) := by unfold addL; rw [l5]
        have hfi := c_first (e := e) (d := d) (b := b) (m := m) (M := uA M 2 (addL s k)) (WS_add Ws hl f1 f2)
        simp only [e1, uA_s] at hfi ih
        have hn2 : wr s (3 + l) (Int32.ofNat k) 2 = s 2 := wr_n (by omega)
        simp only [oI_s, e1]
        simp (disch := omega) only [q186_1, M_s2 he, l1, hn2, hfi, bd_s, kI_r, kV_r, kL_r, rZ_1, rZ_0, rZ_b, rI_ite, bI_ite, ite_tf, ite_ft, bI0, bI1, bf_ite, nAdd, nMul, nLt, nEq, nEqM, nMEq, nMLt, nLtM, nMLt0, if_true, if_false, Nat.reduceAdd, Nat.reduceMul, Nat.zero_add, Nat.add_zero, decide_eq_true_eq, decide_true, decide_false, Nat.reduceEqDiff, Nat.reduceLT, Nat.reduceLeDiff, eq_self, Bool.false_eq_true, Bool.true_eq_false, Bool.not_eq_false', Bool.not_eq_true', ite_not, uA_s, uA_n, uA_uA, M_r0_2, M_r0_3, M_a1, M_a2]
        exact ih
  have h1 := c_first (e := e) (d := d) (b := b) (m := m) (M := uA M 2 (wr (M.1 2) 2 (Int32.ofNat 0))) W0
  have h2 := cnt_le (canB (wr (M.1 2) 2 (Int32.ofNat 0)) (M.1 1)) (nbS (wr (M.1 2) 2 (Int32.ofNat 0)))
  have h3 : nbS (wr (M.1 2) 2 (Int32.ofNat 0)) ≤ 24 := W0.1.2.2
  refine en186 M_c0 fun t ht => ?_
  obtain ⟨u, rfl⟩ := fu 1 ht rfl
  simp (disch := omega) only [q186_0, M_s2 he, h1, bd_s, kI_r, kV_r, kL_r, rZ_1, rZ_0, rZ_b, rI_ite, bI_ite, ite_tf, ite_ft, bI0, bI1, bf_ite, nAdd, nMul, nLt, nEq, nEqM, nMEq, nMLt, nLtM, nMLt0, if_true, if_false, Nat.reduceAdd, Nat.reduceMul, Nat.zero_add, Nat.add_zero, decide_eq_true_eq, decide_true, decide_false, Nat.reduceEqDiff, Nat.reduceLT, Nat.reduceLeDiff, eq_self, Bool.false_eq_true, Bool.true_eq_false, Bool.not_eq_false', Bool.not_eq_true', ite_not, uA_s, uA_n, uA_uA, M_r0_2, M_r0_3, M_a1, M_a2]
  exact key 24 _ W0 (mu_nl0 W) (by unfold muS; omega) _ (by omega)
theorem c_appr {Y : Nat} (he : e.1 ≤ b) (W : WS Y (M.1 1) (M.1 2)) : dN e (d + 4) 188 [.ref b] (ov TM 8 b M m) = rI (Int32.ofNat (aprN (M.1 2) (M.1 1))) (ov TM 8 b (uA M 2 (aprS (M.1 2) (M.1 1))) m) := by
  obtain ⟨n, hb, hn0, -, hn⟩ := W.2.1.ex
  have hn0' : nlS (M.1 2) = n := hn0
  have hW := WS_apr W
  rw [hn0'] at hW
  unfold aprN aprS aprP
  rw [hn0']
  refine en188 M_c0 fun t ht => ?_
  obtain ⟨u, rfl⟩ := fu 1 ht rfl
  rw [q188_0]
  have e0 : uA M 2 (upF (aprF (M.1 1)) 0 (0, M.1 2)).2 = M := uA_self M 2
  suffices h : runL e (dN e (d + 3)) 188 u 1 [some (.ref b), some (.int (Int32.ofNat 0)), some (.int (Int32.ofNat 0)), none] [] (ov TM 8 b (uA M 2 (upF (aprF (M.1 1)) 0 (0, M.1 2)).2) m) = rI (Int32.ofNat (upF (aprF (M.1 1)) n (0, M.1 2)).1) (ov TM 8 b (uA M 2 (wr (upF (aprF (M.1 1)) n (0, M.1 2)).2 2 (Int32.ofNat 0))) m) by
    rw [e0] at h
    exact h
  refine lp_up2 (c := 2) (n := n) (G := fun t k => runL e (dN e (d + 3)) 188 t 1 [some (.ref b), some (.int (Int32.ofNat (upF (aprF (M.1 1)) k (0, M.1 2)).1)), some (.int (Int32.ofNat k)), none] [] (ov TM 8 b (uA M 2 (upF (aprF (M.1 1)) k (0, M.1 2)).2) m)) (fun k hk => ⟨2, by omega, fun t => ?_⟩) (fun t => ?_) u (by omega)
  · obtain ⟨i1, i2, i3⟩ := hW k (by omega)
    have b2 := (i2 2 (by omega)).trans hb
    have b3 : ∀ v : Nat, 3 + v < 27 → (upF (aprF (M.1 1)) k (0, M.1 2)).2 (3 + v) = M.1 2 (3 + v) := fun v hv => i2 _ hv
    obtain ⟨w1, w2, -⟩ := W.2.2.2.2.1 k (by omega)
    obtain ⟨c, c1, c2, -, c4⟩ := w1.ex
    have hcb : c < nbS (upF (aprF (M.1 1)) k (0, M.1 2)).2 := by
      have : nbS (upF (aprF (M.1 1)) k (0, M.1 2)).2 = nbS (M.1 2) := by unfold nbS; rw [i2 1 (by omega)]
      rw [this]
      omega
    have hh := c_hin (e := e) (d := d) (b := b) (m := m) (k := c) (M := uA M 2 (upF (aprF (M.1 1)) k (0, M.1 2)).2) (by omega) (i1.2.2.2.1 c hcb).1
    have e3 := b3 k (by omega)
    rw [upF_s]
    unfold aprF at b2 e3 hh ⊢
    generalize upF (fun k p => if hinS p.2 (M.1 1) (nN (p.2 (3 + k))) = Int32.ofNat 0 then (p.1 + 1, endS p.2 (nN (p.2 (3 + k)))) else p) k (0, M.1 2) = P at *
    simp only [uA_s, uA_n (show (1 : Nat) ≠ 2 by omega)] at hh
    rw [e3, c1, nN_o (by omega)]
    by_cases h0 : hinS P.2 (M.1 1) c = Int32.ofNat 0
    · rw [if_pos h0]
      unfold endS
      simp (disch := omega) only [q188_1, q188_2, b2, hk, e3, c1, hh, h0, c_lays he, bd_s, kI_r, kV_r, kL_r, rZ_1, rZ_0, rZ_b, rI_ite, bI_ite, ite_tf, ite_ft, bI0, bI1, bf_ite, nAdd, nMul, nLt, nEq, nEqM, nMEq, nMLt, nLtM, nMLt0, if_true, if_false, Nat.reduceAdd, Nat.reduceMul, Nat.zero_add, Nat.add_zero, decide_eq_true_eq, decide_true, decide_false, Nat.reduceEqDiff, Nat.reduceLT, Nat.reduceLeDiff, eq_self, Bool.false_eq_true, Bool.true_eq_false, Bool.not_eq_false', Bool.not_eq_true', ite_not, uA_s, uA_n, uA_uA, M_r0_2, M_r0_3, M_a1, M_a2]
    · rw [if_neg h0]
      simp (disch := omega) only [q188_1, q188_2, b2, hk, e3, c1, hh, h0, bd_s, kI_r, kV_r, kL_r, rZ_1, rZ_0, rZ_b, rI_ite, bI_ite, ite_tf, ite_ft, bI0, bI1, bf_ite, nAdd, nMul, nLt, nEq, nEqM, nMEq, nMLt, nLtM, nMLt0, if_true, if_false, Nat.reduceAdd, Nat.reduceMul, Nat.zero_add, Nat.add_zero, decide_eq_true_eq, decide_true, decide_false, Nat.reduceEqDiff, Nat.reduceLT, Nat.reduceLeDiff, eq_self, Bool.false_eq_true, Bool.true_eq_false, Bool.not_eq_false', Bool.not_eq_true', ite_not, uA_s, uA_n, uA_uA, M_r0_2, M_r0_3, M_a1, M_a2]
  · obtain ⟨i1, i2, i3⟩ := hW n (by omega)
    have b2 := (i2 2 (by omega)).trans hb
    simp (disch := omega) only [q188_1, q188_3, b2, M_s2 he, Nat.lt_irrefl, bd_s, kI_r, kV_r, kL_r, rZ_1, rZ_0, rZ_b, rI_ite, bI_ite, ite_tf, ite_ft, bI0, bI1, bf_ite, nAdd, nMul, nLt, nEq, nEqM, nMEq, nMLt, nLtM, nMLt0, if_true, if_false, Nat.reduceAdd, Nat.reduceMul, Nat.zero_add, Nat.add_zero, decide_eq_true_eq, decide_true, decide_false, Nat.reduceEqDiff, Nat.reduceLT, Nat.reduceLeDiff, eq_self, Bool.false_eq_true, Bool.true_eq_false, Bool.not_eq_false', Bool.not_eq_true', ite_not, uA_s, uA_n, uA_uA, M_r0_2, M_r0_3, M_a1, M_a2]
theorem c_clear {Y : Nat} (hY : Y ≤ 1000000) (he : e.1 ≤ b) (W : WS Y (M.1 1) (M.1 2)) : dN e (d + 7) 279 [.ref b] (ov TM 8 b M m) = some (.inl none, (ov TM 8 b (uA M 2 (clrS (M.1 2) (M.1 1))) m)) := by
  have W1 := WS_pas hY W
  have h1 := c_passes (e := e) (d := d + 1) (b := b) (m := m) (M := M) hY he W
  have h2 := c_lists (e := e) (d := d) (b := b) (m := m) (M := uA M 2 (pasS (M.1 2) (M.1 1))) he W1
  have h3 := c_appr (e := e) (d := d + 2) (b := b) (m := m) (M := uA M 2 (listsS (pasS (M.1 2) (M.1 1)) (M.1 1))) he (WS_lists W1)
  simp (disch := omega) only [uA_s, uA_n, uA_uA] at h2 h3
  refine en279 M_c0 fun t ht => ?_
  obtain ⟨u, rfl⟩ := fu 9 ht rfl
  simp (disch := omega) only [q279_0, h1, h2, h3, bd_s, kI_r, kV_r, kL_r, rZ_1, rZ_0, rZ_b, rI_ite, bI_ite, ite_tf, ite_ft, bI0, bI1, bf_ite, nAdd, nMul, nLt, nEq, nEqM, nMEq, nMLt, nLtM, nMLt0, if_true, if_false, Nat.reduceAdd, Nat.reduceMul, Nat.zero_add, Nat.add_zero, decide_eq_true_eq, decide_true, decide_false, Nat.reduceEqDiff, Nat.reduceLT, Nat.reduceLeDiff, eq_self, Bool.false_eq_true, Bool.true_eq_false, Bool.not_eq_false', Bool.not_eq_true', ite_not, uA_s, uA_n, uA_uA, M_r0_2, M_r0_3, M_a1, M_a2]
  rfl
end
end

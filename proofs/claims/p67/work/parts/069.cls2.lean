/-! ===== the class's archive: what it changes (printed by wip/whole/cls2.py) ===== -/
noncomputable section
theorem uA_r (X : bX) (i i' k : Nat) (g : sV) : (uA X i g).1 i' k = if i' = i then g k else X.1 i' k := by
  unfold uA
  by_cases h : i' = i <;> simp [h]
theorem wr_r (f : sV) (j k : Nat) (x : Int32) : wr f j x k = if k = j then x else f k := rfl
theorem RB_congr {A A' : bX} {s s' : sV} {k : Nat} (R : RB A s k) (hw : nN (bx s k 8) ≤ 3) (hA : ∀ i, 9 ≤ i → i ≤ 16 → A'.1 i k = A.1 i k) (hQ : ∀ i, i < 3 → A'.1 17 (3 * k + i) = A.1 17 (3 * k + i)) (hb : ∀ f, f < 12 → bx s' k f = bx s k f) : RB A' s' k := by
  obtain ⟨r0, r1, r2, r4, r3, r5, r6, r8, r9⟩ := R
  unfold RB
  rw [hA 9 (by omega) (by omega), hA 10 (by omega) (by omega), hA 11 (by omega) (by omega), hA 12 (by omega) (by omega), hA 13 (by omega) (by omega), hA 14 (by omega) (by omega), hA 15 (by omega) (by omega), hA 16 (by omega) (by omega)]
  rw [hb 0 (by omega), hb 1 (by omega), hb 2 (by omega), hb 3 (by omega), hb 4 (by omega), hb 5 (by omega), hb 6 (by omega), hb 8 (by omega)]
  refine ⟨r0, r1, r2, r4, r3, r5, r6, r8, fun i hi => ?_⟩
  rw [hQ i (by omega), hb (9 + i) (by omega)]
  exact r9 i hi
theorem RH_congr {A A' : bX} {h : sV} (R : RH A h) (h0 : A'.1 0 15 = A.1 0 15) (h0' : A'.1 0 16 = A.1 0 16) (hA : ∀ i, 1 ≤ i → i ≤ 8 → A'.1 i = A.1 i) (h2 : A'.2 = A.2) : RH A' h := by
  unfold RH
  rw [h0, h0', hA 1 (by omega) (by omega), hA 3 (by omega) (by omega), hA 4 (by omega) (by omega), hA 5 (by omega) (by omega), hA 6 (by omega) (by omega), hA 8 (by omega) (by omega), h2]
  exact R
/-- one box changes -/
theorem OKA_box {Y : Nat} {A A' : bX} {h s s' : sV} {k : Nat} (Z : OKA Y A h s) (W' : WS Y h s') (lo : ∀ j, j < 27 → s' j = s j) (h0 : A'.1 0 = A.1 0) (hA : ∀ i, 1 ≤ i → i ≤ 8 → A'.1 i = A.1 i) (h18 : A'.1 18 = A.1 18) (h2 : A'.2 = A.2)
    (hr : ∀ k', k' ≠ k → ∀ i, 9 ≤ i → i ≤ 16 → A'.1 i k' = A.1 i k') (hq : ∀ k', k' ≠ k → ∀ i, i < 3 → A'.1 17 (3 * k' + i) = A.1 17 (3 * k' + i)) (hb : ∀ k' f, k' ≠ k → f < 12 → bx s' k' f = bx s k' f) (hB : k < nbS s → RB A' s' k) : OKA Y A' h s' := by
  obtain ⟨⟨e1, e2, e3, e4, e5, e6⟩, W, H⟩ := Z
  have n1 : nbS s' = nbS s := by unfold nbS; rw [lo 1 (by omega)]
  have n2 : nlS s' = nlS s := by unfold nlS; rw [lo 2 (by omega)]
  have hl : nlS s ≤ 24 := W.2.1.2.2
  refine ⟨⟨by rw [h0, lo 2 (by omega)]; exact e1, by rw [h0, lo 1 (by omega)]; exact e2, by rw [h0, lo 0 (by omega)]; exact e3, RH_congr e4 (by rw [h0]) (by rw [h0]) hA h2, fun k' hk' => ?_, fun i hi => ?_⟩, W', H⟩
  · rw [n1] at hk'
    by_cases q : k' = k
    · subst q; exact hB hk'
    · exact RB_congr (e5 k' hk') (W.2.2.2.1 k' hk').2.2.2.2.2.2.1.2.2 (hr k' q) (hq k' q) (fun f hf => hb k' f q hf)
  · rw [n2] at hi
    rw [h18, lo _ (by omega)]
    exact e6 i hi
section
variable {e : dEnv} {d a Y : Nat} {A : bX} {h s : sV} {m : dMem}
theorem k_lend (he : e.1 ≤ a) (Z : OKA Y A h s) {x : Int32} {k : Nat} (hk : k < nbS s) (hx : okI 0 5 x ∧ nN x < nN (h 3)) : ∃ A', dN e (d + 1) 34 [.ref a, .int x, .int (Int32.ofNat k)] (ov TA 19 a A m) = some (.inl none, (ov TA 19 a A' m)) ∧ OKA Y A' h (lndS s k x) := by
  obtain ⟨-, wb, hk24⟩ := Z.box hk
  obtain ⟨⟨r0, r1, r2, r4, r3, r5, r6, r8, r9⟩, -, -⟩ := Z.box hk
  have hy := Z.yr
  refine ⟨uA (uA A 14 (wr (A.1 14) k x)) 15 (wr (A.1 15) k (s 0)), ?_, ?_⟩
  · refine en34 A_c0 fun t ht => ?_
    obtain ⟨u, rfl⟩ := fu 9 ht rfl
    simp (disch := omega) only [q34_0, hy, bd_s, kI_r, kV_r, kL_r, rZ_1, rZ_0, rZ_b, rI_ite, bI_ite, ite_tf, ite_ft, bI0, bI1, bf_ite, nAdd, nMul, nLt, nEq, nEqM, nMEq, nMLt, nLtM, nMLt0, if_true, if_false, Nat.reduceAdd, Nat.reduceMul, Nat.zero_add, Nat.add_zero, decide_eq_true_eq, decide_true, decide_false, Nat.reduceEqDiff, Nat.reduceLT, Nat.reduceLeDiff, eq_self, Bool.false_eq_true, Bool.true_eq_false, Bool.not_eq_false', Bool.not_eq_true', ite_not, A_r0_0, A_r0_1, A_r0_2, A_r0_3, A_r0_4, A_r0_5, A_r0_6, A_r0_7, A_r0_8, A_r0_9, A_r0_10, A_r0_11, A_g0_12, A_g0_13, A_g0_14, A_g0_15, A_g0_16, A_r1_1, A_r1_2, A_r1_3, A_g1_4, A_r6_1, A_g6_2, A_a3, A_a4, A_a5, A_a8, A_a9, A_a10, A_a11, A_a12, A_a13, A_a14, A_a15, A_a16, A_a17, A_a18, A_p0_12 he, A_p0_13 he, A_p0_14 he, A_s9 he, A_s10 he, A_s11 he, A_s12 he, A_s13 he, A_s14 he, A_s15 he, A_s16 he, A_s17 he, A_s18 he, uA_s, uA_n, uA_uA, wr_s]
  · obtain ⟨v, v1, v2, -, v4⟩ := hx.1.ex
    have hxn : x ≠ nM1 := by rw [v1]; intro q; rw [nEqM (by omega)] at q; exact q
    refine OKA_box (k := k) Z (WS_lnd Z.2.1 hx) (fun j hj => by unfold lndS; rw [lay_lo hj, lay_lo hj]) (by simp (disch := omega) only [uA_n]) (fun i h1 h2 => by simp (disch := omega) only [uA_n]) (by simp (disch := omega) only [uA_n]) rfl (fun k' hne i h1 h2 => by simp only [uA_r, wr_r, if_neg hne]; (repeat' split) <;> (try subst_vars) <;> rfl) (fun k' hne i hi => by simp (disch := omega) only [uA_n]) (fun k' f h1 h2 => by unfold lndS; rw [lay_oth (by omega) _ _ h1 h2, lay_oth (by omega) _ _ h1 h2]) (fun _ => ?_)
    unfold lndS RB
    simp (disch := omega) only [uA_r, wr_r, if_true, bx_lay, eq_self, Nat.reduceEqDiff, if_false, and_true, and_false, true_and, false_and]
    have w3 := wb.2.2.2.2.2.2.1.2.2
    refine ⟨r0, r1, r2, r4, r3, (if_neg hxn).symm, r8, fun i hi => ?_⟩
    rw [lay_n (by omega) (by omega) (by omega), lay_n (by omega) (by omega) (by omega)]
    exact r9 i hi
theorem k_endLoan (he : e.1 ≤ a) (Z : OKA Y A h s) {k : Nat} (hk : k < nbS s) : ∃ A', dN e (d + 1) 35 [.ref a, .int (Int32.ofNat k)] (ov TA 19 a A m) = some (.inl none, (ov TA 19 a A' m)) ∧ OKA Y A' h (lay s k 5 nM1) := by
  obtain ⟨⟨r0, r1, r2, r4, r3, r5, r6, r8, r9⟩, wb, hk24⟩ := Z.box hk
  refine ⟨uA (uA A 14 (wr (A.1 14) k nM1)) 15 (wr (A.1 15) k nM1), ?_, ?_⟩
  · refine en35 A_c0 fun t ht => ?_
    obtain ⟨u, rfl⟩ := fu 9 ht rfl
    simp (disch := omega) only [q35_0, bd_s, kI_r, kV_r, kL_r, rZ_1, rZ_0, rZ_b, rI_ite, bI_ite, ite_tf, ite_ft, bI0, bI1, bf_ite, nAdd, nMul, nLt, nEq, nEqM, nMEq, nMLt, nLtM, nMLt0, if_true, if_false, Nat.reduceAdd, Nat.reduceMul, Nat.zero_add, Nat.add_zero, decide_eq_true_eq, decide_true, decide_false, Nat.reduceEqDiff, Nat.reduceLT, Nat.reduceLeDiff, eq_self, Bool.false_eq_true, Bool.true_eq_false, Bool.not_eq_false', Bool.not_eq_true', ite_not, A_r0_0, A_r0_1, A_r0_2, A_r0_3, A_r0_4, A_r0_5, A_r0_6, A_r0_7, A_r0_8, A_r0_9, A_r0_10, A_r0_11, A_g0_12, A_g0_13, A_g0_14, A_g0_15, A_g0_16, A_r1_1, A_r1_2, A_r1_3, A_g1_4, A_r6_1, A_g6_2, A_a3, A_a4, A_a5, A_a8, A_a9, A_a10, A_a11, A_a12, A_a13, A_a14, A_a15, A_a16, A_a17, A_a18, A_p0_12 he, A_p0_13 he, A_p0_14 he, A_s9 he, A_s10 he, A_s11 he, A_s12 he, A_s13 he, A_s14 he, A_s15 he, A_s16 he, A_s17 he, A_s18 he, uA_s, uA_n, uA_uA, wr_s]
  · refine OKA_box (k := k) Z (WS_5 Z.2.1 (Or.inl rfl)) (fun j hj => lay_lo hj) (by simp (disch := omega) only [uA_n]) (fun i h1 h2 => by simp (disch := omega) only [uA_n]) (by simp (disch := omega) only [uA_n]) rfl (fun k' hne i h1 h2 => by simp only [uA_r, wr_r, if_neg hne]; (repeat' split) <;> (try subst_vars) <;> rfl) (fun k' hne i hi => by simp (disch := omega) only [uA_n]) (fun k' f h1 h2 => lay_oth (by omega) _ _ h1 h2) (fun _ => ?_)
    unfold RB
    simp (disch := omega) only [uA_r, wr_r, if_true, bx_lay, eq_self, Nat.reduceEqDiff, if_false, and_true, and_false, true_and, false_and]
    have w3 := wb.2.2.2.2.2.2.1.2.2
    refine ⟨r0, r1, r2, r4, r3, r8, fun i hi => ?_⟩
    rw [lay_n (by omega) (by omega) (by omega)]
    exact r9 i hi
theorem k_leave (he : e.1 ≤ a) (Z : OKA Y A h s) {k p : Nat} (hk : k < nbS s) (hp : p < nN (bx s k 8)) : ∃ A', dN e (d + 1) 38 [.ref a, .int (Int32.ofNat k), .int (Int32.ofNat p)] (ov TA 19 a A m) = some (.inl none, (ov TA 19 a A' m)) ∧ OKA Y A' h (lvS s k p) := by
  obtain ⟨⟨r0, r1, r2, r4, r3, r5, r6, r8, r9⟩, wb, hk24⟩ := Z.box hk
  obtain ⟨w, w1, w2, -, w4⟩ := wb.2.2.2.2.2.2.1.ex
  have hw3 : nN (bx s k 8) ≤ 3 := by omega
  have hp' : p < w := by omega
  have lo : ∀ j, j < 27 → lvS s k p j = s j := fun j hj => lv_lo hj
  have fin : ∀ B : bX, B.1 0 = A.1 0 → (∀ i, 1 ≤ i → i ≤ 16 → i ≠ 16 → B.1 i = A.1 i) → B.1 18 = A.1 18 → B.2 = A.2 → B.1 16 = wr (A.1 16) k (Int32.ofNat (w - 1)) → (∀ j, B.1 17 j = if 3 * k + p ≤ j ∧ j < 3 * k + (w - 1) then A.1 17 (j + 1) else A.1 17 j) → OKA Y B h (lvS s k p) := by
    intro B b0 b1 b18 b2 b16 b17
    refine OKA_box (k := k) Z (WS_lv Z.2.1 hk hp) lo b0 (fun i h1 h2 => b1 i h1 (by omega) (by omega)) b18 b2 (fun k' hne i h1 h2 => ?_) (fun k' hne i hi => ?_) (fun k' f h1 h2 => lv_oth hw3 hp h2 (Or.inl h1)) (fun _ => ?_)
    · by_cases q : i = 16
      · rw [q, b16, wr_n hne]
      · rw [b1 i (by omega) h2 q]
    · rw [b17, if_neg (by omega)]
    · unfold RB
      have o : ∀ f, f < 8 → bx (lvS s k p) k f = bx s k f := fun f hf => lv_oth hw3 hp (by omega) (Or.inr hf)
      rw [b1 9 (by omega) (by omega) (by omega), b1 10 (by omega) (by omega) (by omega), b1 11 (by omega) (by omega) (by omega), b1 12 (by omega) (by omega) (by omega), b1 13 (by omega) (by omega) (by omega), b1 14 (by omega) (by omega) (by omega), b1 15 (by omega) (by omega) (by omega), b16, wr_s]
      rw [o 0 (by omega), o 1 (by omega), o 2 (by omega), o 3 (by omega), o 4 (by omega), o 5 (by omega), o 6 (by omega), lv_8 hw3 hp, w2]
      refine ⟨r0, r1, r2, r4, r3, r5, r6, rfl, fun i hi => ?_⟩
      rw [nN_o (by omega)] at hi
      rw [lv_9 hw3 hp (by omega), b17]
      by_cases q : i < p
      · rw [if_neg (by omega), if_pos q]
        exact r9 i (by omega)
      · rw [if_pos (by omega), if_neg q]
        exact r9 (i + 1) (by omega)
  refine ⟨uA (uA A 16 (wr (A.1 16) k (Int32.ofNat (w - 1)))) 17 (upF (fun i g => wr g (3 * k + p + i) (g (3 * k + p + i + 1))) (w - 1 - p) (A.1 17)), ?_, fin _ ?_ ?_ ?_ rfl ?_ ?_⟩
  · refine en38 A_c0 fun t ht => ?_
    obtain ⟨u, rfl⟩ := fu 1 ht rfl
    simp (disch := omega) only [q38_0, r8, w1, nSub, Nat.mul_comm k 3, bd_s, kI_r, kV_r, kL_r, rZ_1, rZ_0, rZ_b, rI_ite, bI_ite, ite_tf, ite_ft, bI0, bI1, bf_ite, nAdd, nMul, nLt, nEq, nEqM, nMEq, nMLt, nLtM, nMLt0, if_true, if_false, Nat.reduceAdd, Nat.reduceMul, Nat.zero_add, Nat.add_zero, decide_eq_true_eq, decide_true, decide_false, Nat.reduceEqDiff, Nat.reduceLT, Nat.reduceLeDiff, eq_self, Bool.false_eq_true, Bool.true_eq_false, Bool.not_eq_false', Bool.not_eq_true', ite_not, A_r0_0, A_r0_1, A_r0_2, A_r0_3, A_r0_4, A_r0_5, A_r0_6, A_r0_7, A_r0_8, A_r0_9, A_r0_10, A_r0_11, A_g0_12, A_g0_13, A_g0_14, A_g0_15, A_g0_16, A_r1_1, A_r1_2, A_r1_3, A_g1_4, A_r6_1, A_g6_2, A_a3, A_a4, A_a5, A_a8, A_a9, A_a10, A_a11, A_a12, A_a13, A_a14, A_a15, A_a16, A_a17, A_a18, A_p0_12 he, A_p0_13 he, A_p0_14 he, A_s9 he, A_s10 he, A_s11 he, A_s12 he, A_s13 he, A_s14 he, A_s15 he, A_s16 he, A_s17 he, A_s18 he, uA_s, uA_n, uA_uA, wr_s]
    have e0 : uA (uA A 16 (wr (A.1 16) k (Int32.ofNat (w - 1)))) 17 (upF (fun i g => wr g (3 * k + p + i) (g (3 * k + p + i + 1))) 0 (A.1 17)) = uA A 16 (wr (A.1 16) k (Int32.ofNat (w - 1))) := uA_self (uA A 16 (wr (A.1 16) k (Int32.ofNat (w - 1)))) 17
    suffices hh : runL e (dN e d) 38 u 1 [some (.ref a), some (.int (Int32.ofNat k)), none, some (.int (Int32.ofNat (3 * k))), some (.int (Int32.ofNat (p + 0)))] [] (ov TA 19 a (uA (uA A 16 (wr (A.1 16) k (Int32.ofNat (w - 1)))) 17 (upF (fun i g => wr g (3 * k + p + i) (g (3 * k + p + i + 1))) 0 (A.1 17))) m) = some (.inl none, ov TA 19 a (uA (uA A 16 (wr (A.1 16) k (Int32.ofNat (w - 1)))) 17 (upF (fun i g => wr g (3 * k + p + i) (g (3 * k + p + i + 1))) (w - 1 - p) (A.1 17))) m) by
      rw [e0] at hh
      exact hh
    refine lp_up2 (c := 2) (n := w - 1 - p) (G := fun t i => runL e (dN e d) 38 t 1 [some (.ref a), some (.int (Int32.ofNat k)), none, some (.int (Int32.ofNat (3 * k))), some (.int (Int32.ofNat (p + i)))] [] (ov TA 19 a (uA (uA A 16 (wr (A.1 16) k (Int32.ofNat (w - 1)))) 17 (upF (fun i g => wr g (3 * k + p + i) (g (3 * k + p + i + 1))) i (A.1 17))) m)) (fun i hi => ⟨1, by omega, fun t => ?_⟩) (fun t => ?_) u (by omega)
    · have h1 : p + i < w - 1 := by omega
      rw [upF_s]
      simp (disch := omega) only [q38_1, h1, Nat.add_assoc, bd_s, kI_r, kV_r, kL_r, rZ_1, rZ_0, rZ_b, rI_ite, bI_ite, ite_tf, ite_ft, bI0, bI1, bf_ite, nAdd, nMul, nLt, nEq, nEqM, nMEq, nMLt, nLtM, nMLt0, if_true, if_false, Nat.reduceAdd, Nat.reduceMul, Nat.zero_add, Nat.add_zero, decide_eq_true_eq, decide_true, decide_false, Nat.reduceEqDiff, Nat.reduceLT, Nat.reduceLeDiff, eq_self, Bool.false_eq_true, Bool.true_eq_false, Bool.not_eq_false', Bool.not_eq_true', ite_not, A_r0_0, A_r0_1, A_r0_2, A_r0_3, A_r0_4, A_r0_5, A_r0_6, A_r0_7, A_r0_8, A_r0_9, A_r0_10, A_r0_11, A_g0_12, A_g0_13, A_g0_14, A_g0_15, A_g0_16, A_r1_1, A_r1_2, A_r1_3, A_g1_4, A_r6_1, A_g6_2, A_a3, A_a4, A_a5, A_a8, A_a9, A_a10, A_a11, A_a12, A_a13, A_a14, A_a15, A_a16, A_a17, A_a18, A_p0_12 he, A_p0_13 he, A_p0_14 he, A_s9 he, A_s10 he, A_s11 he, A_s12 he, A_s13 he, A_s14 he, A_s15 he, A_s16 he, A_s17 he, A_s18 he, uA_s, uA_n, uA_uA, wr_s]
    · have h1 : p + (w - 1 - p) = w - 1 := by omega
      simp (disch := omega) only [q38_1, q38_2, h1, Nat.lt_irrefl, bd_s, kI_r, kV_r, kL_r, rZ_1, rZ_0, rZ_b, rI_ite, bI_ite, ite_tf, ite_ft, bI0, bI1, bf_ite, nAdd, nMul, nLt, nEq, nEqM, nMEq, nMLt, nLtM, nMLt0, if_true, if_false, Nat.reduceAdd, Nat.reduceMul, Nat.zero_add, Nat.add_zero, decide_eq_true_eq, decide_true, decide_false, Nat.reduceEqDiff, Nat.reduceLT, Nat.reduceLeDiff, eq_self, Bool.false_eq_true, Bool.true_eq_false, Bool.not_eq_false', Bool.not_eq_true', ite_not, A_r0_0, A_r0_1, A_r0_2, A_r0_3, A_r0_4, A_r0_5, A_r0_6, A_r0_7, A_r0_8, A_r0_9, A_r0_10, A_r0_11, A_g0_12, A_g0_13, A_g0_14, A_g0_15, A_g0_16, A_r1_1, A_r1_2, A_r1_3, A_g1_4, A_r6_1, A_g6_2, A_a3, A_a4, A_a5, A_a8, A_a9, A_a10, A_a11, A_a12, A_a13, A_a14, A_a15, A_a16, A_a17, A_a18, A_p0_12 he, A_p0_13 he, A_p0_14 he, A_s9 he, A_s10 he, A_s11 he, A_s12 he, A_s13 he, A_s14 he, A_s15 he, A_s16 he, A_s17 he, A_s18 he, uA_s, uA_n, uA_uA, wr_s]
  · simp (disch := omega) only [uA_n]
  · intro i h1 h2 h3
    simp (disch := omega) only [uA_n]
  · simp (disch := omega) only [uA_n]
  · simp (disch := omega) only [uA_n, uA_s]
  · intro j
    rw [uA_s]
    have key : ∀ i, i ≤ w - 1 - p → ∀ j, upF (fun i g => wr g (3 * k + p + i) (g (3 * k + p + i + 1))) i (A.1 17) j = if 3 * k + p ≤ j ∧ j < 3 * k + p + i then A.1 17 (j + 1) else A.1 17 j := by
      intro i
      induction i with
      | zero => intro _ j; rw [if_neg (by omega)]; rfl
      | succ i ih =>
        intro hi j
        have ih := ih (by omega)
        rw [upF_s]
        by_cases q : j = 3 * k + p + i
        · rw [q, wr_s, ih, if_neg (by omega), if_pos (by omega)]
        · rw [wr_n q, ih]
          by_cases q2 : 3 * k + p ≤ j ∧ j < 3 * k + p + i
          · rw [if_pos q2, if_pos (by omega)]
          · rw [if_neg q2, if_neg (by omega)]
    rw [key _ (Nat.le_refl _)]
    by_cases q : 3 * k + p ≤ j ∧ j < 3 * k + (w - 1)
    · rw [if_pos q, if_pos (by omega)]
    · rw [if_neg q, if_neg (by omega)]
theorem OKA.holds (Z : OKA Y A h s) {k i : Nat} (hk : k < nbS s) (hi : i < nN (bx s k 8)) : ∃ r, bx s k (9 + i) = Int32.ofNat r ∧ nN (bx s k (9 + i)) = r ∧ r < 6 ∧ A.1 8 r = h (40 + r) ∧ okI 0 5 (bx s k (9 + i)) ∧ nN (bx s k (9 + i)) < nN (h 3) := by
  obtain ⟨-, wb, -⟩ := Z.box hk
  obtain ⟨b0, b1⟩ := wb.2.2.2.2.2.2.2 i hi
  obtain ⟨r, r1, r2, -, r4⟩ := b0.ex
  exact ⟨r, r1, r2, by omega, (Z.1.2.2.2.1.2.2.2.2.2 r (by omega)).1, b0, b1⟩
theorem k_serve (he : e.1 ≤ a) (Z : OKA Y A h s) {k : Nat} (hk : k < nbS s) : ∃ A', dN e (d + 2) 37 [.ref a, .int (Int32.ofNat k)] (ov TA 19 a A m) = some (.inl none, (ov TA 19 a A' m)) ∧ OKA Y A' h (srvS s h k) := by
  obtain ⟨⟨r0, r1, r2, r4, r3, r5, r6, r8, r9⟩, wb, hk24⟩ := Z.box hk
  obtain ⟨w, w1, w2, -, w4⟩ := wb.2.2.2.2.2.2.1.ex
  unfold srvS
  cases hg : gonB s k with
  | true =>
    refine ⟨A, ?_, Z⟩
    refine en37 A_c0 fun t ht => ?_
    obtain ⟨u, rfl⟩ := fu 9 ht rfl
    simp (disch := omega) only [q37_0, q37_1, k_dest Z.z hk, hg, bd_s, kI_r, kV_r, kL_r, rZ_1, rZ_0, rZ_b, rI_ite, bI_ite, ite_tf, ite_ft, bI0, bI1, bf_ite, nAdd, nMul, nLt, nEq, nEqM, nMEq, nMLt, nLtM, nMLt0, if_true, if_false, Nat.reduceAdd, Nat.reduceMul, Nat.zero_add, Nat.add_zero, decide_eq_true_eq, decide_true, decide_false, Nat.reduceEqDiff, Nat.reduceLT, Nat.reduceLeDiff, eq_self, Bool.false_eq_true, Bool.true_eq_false, Bool.not_eq_false', Bool.not_eq_true', ite_not, A_r0_0, A_r0_1, A_r0_2, A_r0_3, A_r0_4, A_r0_5, A_r0_6, A_r0_7, A_r0_8, A_r0_9, A_r0_10, A_r0_11, A_g0_12, A_g0_13, A_g0_14, A_g0_15, A_g0_16, A_r1_1, A_r1_2, A_r1_3, A_g1_4, A_r6_1, A_g6_2, A_a3, A_a4, A_a5, A_a8, A_a9, A_a10, A_a11, A_a12, A_a13, A_a14, A_a15, A_a16, A_a17, A_a18]
  | false =>
  cases hs : selB s k with
  | true =>
    refine ⟨A, ?_, Z⟩
    refine en37 A_c0 fun t ht => ?_
    obtain ⟨u, rfl⟩ := fu 9 ht rfl
    simp (disch := omega) only [q37_0, q37_1, k_dest Z.z hk, k_seal Z.z hk, k_lent Z.z hk, hg, hs, bd_s, kI_r, kV_r, kL_r, rZ_1, rZ_0, rZ_b, rI_ite, bI_ite, ite_tf, ite_ft, bI0, bI1, bf_ite, nAdd, nMul, nLt, nEq, nEqM, nMEq, nMLt, nLtM, nMLt0, if_true, if_false, Nat.reduceAdd, Nat.reduceMul, Nat.zero_add, Nat.add_zero, decide_eq_true_eq, decide_true, decide_false, Nat.reduceEqDiff, Nat.reduceLT, Nat.reduceLeDiff, eq_self, Bool.false_eq_true, Bool.true_eq_false, Bool.not_eq_false', Bool.not_eq_true', ite_not, A_r0_0, A_r0_1, A_r0_2, A_r0_3, A_r0_4, A_r0_5, A_r0_6, A_r0_7, A_r0_8, A_r0_9, A_r0_10, A_r0_11, A_g0_12, A_g0_13, A_g0_14, A_g0_15, A_g0_16, A_r1_1, A_r1_2, A_r1_3, A_g1_4, A_r6_1, A_g6_2, A_a3, A_a4, A_a5, A_a8, A_a9, A_a10, A_a11, A_a12, A_a13, A_a14, A_a15, A_a16, A_a17, A_a18]
  | false =>
  by_cases h5 : bx s k 5 = nM1
  · rw [decide_eq_true h5]
    simp only [Bool.false_or, Bool.not_true, cond_false]
    rw [w2]
    cases hf : fnd w (fun i => mayH s h (bx s k (9 + i))) with
    | none =>
      refine ⟨A, ?_, Z⟩
      refine en37 A_c0 fun t ht => ?_
      obtain ⟨u, rfl⟩ := fu 2 ht rfl
      simp (disch := omega) only [q37_0, q37_2, k_dest Z.z hk, k_seal Z.z hk, k_lent Z.z hk, hg, hs, h5, bd_s, kI_r, kV_r, kL_r, rZ_1, rZ_0, rZ_b, rI_ite, bI_ite, ite_tf, ite_ft, bI0, bI1, bf_ite, nAdd, nMul, nLt, nEq, nEqM, nMEq, nMLt, nLtM, nMLt0, if_true, if_false, Nat.reduceAdd, Nat.reduceMul, Nat.zero_add, Nat.add_zero, decide_eq_true_eq, decide_true, decide_false, Nat.reduceEqDiff, Nat.reduceLT, Nat.reduceLeDiff, eq_self, Bool.false_eq_true, Bool.true_eq_false, Bool.not_eq_false', Bool.not_eq_true', ite_not, A_r0_0, A_r0_1, A_r0_2, A_r0_3, A_r0_4, A_r0_5, A_r0_6, A_r0_7, A_r0_8, A_r0_9, A_r0_10, A_r0_11, A_g0_12, A_g0_13, A_g0_14, A_g0_15, A_g0_16, A_r1_1, A_r1_2, A_r1_3, A_g1_4, A_r6_1, A_g6_2, A_a3, A_a4, A_a5, A_a8, A_a9, A_a10, A_a11, A_a12, A_a13, A_a14, A_a15, A_a16, A_a17, A_a18]
      refine lp_up2 (c := 2) (n := w) (G := fun t i => runL e (dN e (d + 1)) 37 t 3 [some (.ref a), some (.int (Int32.ofNat k)), some (.int (Int32.ofNat i)), none] [] (ov TA 19 a A m)) (fun i hi => ⟨2, by omega, fun t => ?_⟩) (fun t => ?_) u (by omega)
      · have hp : ¬ _ := of_decide_eq_false (fnd_none hf i hi)
        obtain ⟨r, q1, q2, q3, q4, -⟩ := Z.holds hk (show i < nN (bx s k 8) by omega)
        rw [q2, q1] at hp
        have hr9 := r9 i (by omega)
        simp (disch := omega) only [q37_3, q37_4, r8, w1, hi, Nat.mul_comm k 3, hr9, q1, q4, k_held Z.z, hp, bd_s, kI_r, kV_r, kL_r, rZ_1, rZ_0, rZ_b, rI_ite, bI_ite, ite_tf, ite_ft, bI0, bI1, bf_ite, nAdd, nMul, nLt, nEq, nEqM, nMEq, nMLt, nLtM, nMLt0, if_true, if_false, Nat.reduceAdd, Nat.reduceMul, Nat.zero_add, Nat.add_zero, decide_eq_true_eq, decide_true, decide_false, Nat.reduceEqDiff, Nat.reduceLT, Nat.reduceLeDiff, eq_self, Bool.false_eq_true, Bool.true_eq_false, Bool.not_eq_false', Bool.not_eq_true', ite_not, A_r0_0, A_r0_1, A_r0_2, A_r0_3, A_r0_4, A_r0_5, A_r0_6, A_r0_7, A_r0_8, A_r0_9, A_r0_10, A_r0_11, A_g0_12, A_g0_13, A_g0_14, A_g0_15, A_g0_16, A_r1_1, A_r1_2, A_r1_3, A_g1_4, A_r6_1, A_g6_2, A_a3, A_a4, A_a5, A_a8, A_a9, A_a10, A_a11, A_a12, A_a13, A_a14, A_a15, A_a16, A_a17, A_a18]
      · simp (disch := omega) only [q37_3, q37_5, r8, w1, Nat.lt_irrefl, bd_s, kI_r, kV_r, kL_r, rZ_1, rZ_0, rZ_b, rI_ite, bI_ite, ite_tf, ite_ft, bI0, bI1, bf_ite, nAdd, nMul, nLt, nEq, nEqM, nMEq, nMLt, nLtM, nMLt0, if_true, if_false, Nat.reduceAdd, Nat.reduceMul, Nat.zero_add, Nat.add_zero, decide_eq_true_eq, decide_true, decide_false, Nat.reduceEqDiff, Nat.reduceLT, Nat.reduceLeDiff, eq_self, Bool.false_eq_true, Bool.true_eq_false, Bool.not_eq_false', Bool.not_eq_true', ite_not, A_r0_0, A_r0_1, A_r0_2, A_r0_3, A_r0_4, A_r0_5, A_r0_6, A_r0_7, A_r0_8, A_r0_9, A_r0_10, A_r0_11, A_g0_12, A_g0_13, A_g0_14, A_g0_15, A_g0_16, A_r1_1, A_r1_2, A_r1_3, A_g1_4, A_r6_1, A_g6_2, A_a3, A_a4, A_a5, A_a8, A_a9, A_a10, A_a11, A_a12, A_a13, A_a14, A_a15, A_a16, A_a17, A_a18]
    | some i =>
      obtain ⟨f1, f2, f3⟩ := fnd_some hf
      obtain ⟨r, q1, q2, q3, q4, q5⟩ := Z.holds hk (show i < nN (bx s k 8) by omega)
      have hp : _ < _ := of_decide_eq_true f2
      rw [q2, q1] at hp
      obtain ⟨A1, g1, Z1⟩ := k_leave (d := d) (m := m) he Z hk (show i < nN (bx s k 8) by omega)
      have hk1 : k < nbS (lvS s k i) := by unfold nbS; rw [lv_lo (by omega)]; exact hk
      obtain ⟨A2, g2, Z2⟩ := k_lend (d := d) (m := m) he Z1 hk1 q5
      refine ⟨A2, ?_, Z2⟩
      refine en37 A_c0 fun t ht => ?_
      obtain ⟨u, rfl⟩ := fu 2 ht rfl
      simp (disch := omega) only [q37_0, q37_2, k_dest Z.z hk, k_seal Z.z hk, k_lent Z.z hk, hg, hs, h5, bd_s, kI_r, kV_r, kL_r, rZ_1, rZ_0, rZ_b, rI_ite, bI_ite, ite_tf, ite_ft, bI0, bI1, bf_ite, nAdd, nMul, nLt, nEq, nEqM, nMEq, nMLt, nLtM, nMLt0, if_true, if_false, Nat.reduceAdd, Nat.reduceMul, Nat.zero_add, Nat.add_zero, decide_eq_true_eq, decide_true, decide_false, Nat.reduceEqDiff, Nat.reduceLT, Nat.reduceLeDiff, eq_self, Bool.false_eq_true, Bool.true_eq_false, Bool.not_eq_false', Bool.not_eq_true', ite_not, A_r0_0, A_r0_1, A_r0_2, A_r0_3, A_r0_4, A_r0_5, A_r0_6, A_r0_7, A_r0_8, A_r0_9, A_r0_10, A_r0_11, A_g0_12, A_g0_13, A_g0_14, A_g0_15, A_g0_16, A_r1_1, A_r1_2, A_r1_3, A_g1_4, A_r6_1, A_g6_2, A_a3, A_a4, A_a5, A_a8, A_a9, A_a10, A_a11, A_a12, A_a13, A_a14, A_a15, A_a16, A_a17, A_a18]
      have key : ∀ j, j ≤ i → ∀ v, 2 * (j + 1) ≤ v → runL e (dN e (d + 1)) 37 v 3 [some (.ref a), some (.int (Int32.ofNat k)), some (.int (Int32.ofNat (i - j))), none] [] (ov TA 19 a A m) = some (.inl none, ov TA 19 a A2 m) := by
        intro j
        induction j with
        | zero =>
          intro _ v hv
          obtain ⟨v, rfl⟩ : ∃ v', v = v' + 2 := ⟨v - 2, by omega⟩
          have hr9 := r9 i (by omega)
          rw [q1] at g2
          simp (disch := omega) only [q37_3, r8, w1, f1, Nat.sub_zero, Nat.mul_comm k 3, hr9, q1, q4, k_held Z.z, hp, g1, g2, bd_s, kI_r, kV_r, kL_r, rZ_1, rZ_0, rZ_b, rI_ite, bI_ite, ite_tf, ite_ft, bI0, bI1, bf_ite, nAdd, nMul, nLt, nEq, nEqM, nMEq, nMLt, nLtM, nMLt0, if_true, if_false, Nat.reduceAdd, Nat.reduceMul, Nat.zero_add, Nat.add_zero, decide_eq_true_eq, decide_true, decide_false, Nat.reduceEqDiff, Nat.reduceLT, Nat.reduceLeDiff, eq_self, Bool.false_eq_true, Bool.true_eq_false, Bool.not_eq_false', Bool.not_eq_true', ite_not, A_r0_0, A_r0_1, A_r0_2, A_r0_3, A_r0_4, A_r0_5, A_r0_6, A_r0_7, A_r0_8, A_r0_9, A_r0_10, A_r0_11, A_g0_12, A_g0_13, A_g0_14, A_g0_15, A_g0_16, A_r1_1, A_r1_2, A_r1_3, A_g1_4, A_r6_1, A_g6_2, A_a3, A_a4, A_a5, A_a8, A_a9, A_a10, A_a11, A_a12, A_a13, A_a14, A_a15, A_a16, A_a17, A_a18]
        | succ j ih =>
          intro hj v hv
          obtain ⟨v, rfl⟩ : ∃ v', v = v' + 2 := ⟨v - 2, by omega⟩
          have hi : i - (j + 1) < w := by omega
          have hp : ¬ _ := of_decide_eq_false (f3 (i - (j + 1)) (by omega))
          obtain ⟨r, q1, q2, q3, q4, -⟩ := Z.holds hk (show i - (j + 1) < nN (bx s k 8) by omega)
          rw [q2, q1] at hp
          have hr9 := r9 (i - (j + 1)) (by omega)
          have e9 : i - (j + 1) + 1 = i - j := by omega
          have ih := ih (by omega) v (by omega)
          simp (disch := omega) only [q37_3, q37_4, r8, w1, hi, Nat.mul_comm k 3, hr9, q1, q4, k_held Z.z, hp, e9, ih, bd_s, kI_r, kV_r, kL_r, rZ_1, rZ_0, rZ_b, rI_ite, bI_ite, ite_tf, ite_ft, bI0, bI1, bf_ite, nAdd, nMul, nLt, nEq, nEqM, nMEq, nMLt, nLtM, nMLt0, if_true, if_false, Nat.reduceAdd, Nat.reduceMul, Nat.zero_add, Nat.add_zero, decide_eq_true_eq, decide_true, decide_false, Nat.reduceEqDiff, Nat.reduceLT, Nat.reduceLeDiff, eq_self, Bool.false_eq_true, Bool.true_eq_false, Bool.not_eq_false', Bool.not_eq_true', ite_not, A_r0_0, A_r0_1, A_r0_2, A_r0_3, A_r0_4, A_r0_5, A_r0_6, A_r0_7, A_r0_8, A_r0_9, A_r0_10, A_r0_11, A_g0_12, A_g0_13, A_g0_14, A_g0_15, A_g0_16, A_r1_1, A_r1_2, A_r1_3, A_g1_4, A_r6_1, A_g6_2, A_a3, A_a4, A_a5, A_a8, A_a9, A_a10, A_a11, A_a12, A_a13, A_a14, A_a15, A_a16, A_a17, A_a18]
      have := key i (Nat.le_refl _) u (by omega)
      rw [Nat.sub_self] at this
      exact this
  · refine ⟨A, ?_, ?_⟩
    · refine en37 A_c0 fun t ht => ?_
      obtain ⟨u, rfl⟩ := fu 9 ht rfl
      simp (disch := omega) only [q37_0, q37_1, k_dest Z.z hk, k_seal Z.z hk, k_lent Z.z hk, hg, hs, h5, bd_s, kI_r, kV_r, kL_r, rZ_1, rZ_0, rZ_b, rI_ite, bI_ite, ite_tf, ite_ft, bI0, bI1, bf_ite, nAdd, nMul, nLt, nEq, nEqM, nMEq, nMLt, nLtM, nMLt0, if_true, if_false, Nat.reduceAdd, Nat.reduceMul, Nat.zero_add, Nat.add_zero, decide_eq_true_eq, decide_true, decide_false, Nat.reduceEqDiff, Nat.reduceLT, Nat.reduceLeDiff, eq_self, Bool.false_eq_true, Bool.true_eq_false, Bool.not_eq_false', Bool.not_eq_true', ite_not, A_r0_0, A_r0_1, A_r0_2, A_r0_3, A_r0_4, A_r0_5, A_r0_6, A_r0_7, A_r0_8, A_r0_9, A_r0_10, A_r0_11, A_g0_12, A_g0_13, A_g0_14, A_g0_15, A_g0_16, A_r1_1, A_r1_2, A_r1_3, A_g1_4, A_r6_1, A_g6_2, A_a3, A_a4, A_a5, A_a8, A_a9, A_a10, A_a11, A_a12, A_a13, A_a14, A_a15, A_a16, A_a17, A_a18]
    · rw [decide_eq_false h5]
      exact Z
end
end

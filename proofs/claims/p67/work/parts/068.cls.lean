/-! ===== the class's archive: what it answers, by the reference's rows (printed by wip/whole/cls.py) ===== -/
noncomputable section
/-- a name's letters in one long -/
def pkN (h : sV) (p : Nat) : Int64 := upF (fun i (x : Int64) => x ||| ((h (p + i)).toInt64 <<< ((Int32.ofNat 8 * Int32.ofNat i).toInt64 &&& 63))) 6 0
def RB (A : bX) (s : sV) (k : Nat) : Prop := A.1 9 k = bx s k 0 ∧ A.1 10 k = bx s k 1 ∧ A.1 11 k = bx s k 2 ∧ A.1 12 k = bx s k 4 ∧ A.1 13 k = bx s k 3 ∧ A.1 14 k = bx s k 5 ∧ A.1 15 k = (if bx s k 5 = nM1 then nM1 else bx s k 6) ∧ A.1 16 k = bx s k 8 ∧ ∀ i, i < nN (bx s k 8) → A.1 17 (3 * k + i) = bx s k (9 + i)
def RH (A : bX) (h : sV) : Prop := A.1 0 15 = h 0 ∧ A.1 0 16 = h 1 ∧ A.1 1 4 = h 2 ∧ A.1 6 2 = h 3 ∧ (∀ c, c < nN (h 2) → A.1 3 c = h (94 + c) ∧ A.1 4 c = h (102 + c) ∧ A.1 5 c = h (110 + c) ∧ A.2 2 c = pkN h (46 + 6 * c)) ∧ ∀ r, r < nN (h 3) → A.1 8 r = h (40 + r) ∧ A.2 7 r = pkN h (4 + 6 * r)
def RA (A : bX) (h s : sV) : Prop := A.1 0 12 = s 2 ∧ A.1 0 13 = s 1 ∧ A.1 0 14 = s 0 ∧ RH A h ∧ (∀ k, k < nbS s → RB A s k) ∧ ∀ i, i < nlS s → A.1 18 i = s (3 + i)
def OKA (Y : Nat) (A : bX) (h s : sV) : Prop := RA A h s ∧ WS Y h s ∧ WH h
/-- apart from the list -/
def OK0 (Y : Nat) (A : bX) (h s : sV) : Prop := (A.1 0 13 = s 1 ∧ A.1 0 14 = s 0 ∧ RH A h ∧ ∀ k, k < nbS s → RB A s k) ∧ WS Y h s ∧ WH h
theorem OKA.z {Y : Nat} {A : bX} {h s : sV} (Z : OKA Y A h s) : OK0 Y A h s := ⟨⟨Z.1.2.1, Z.1.2.2.1, Z.1.2.2.2.1, Z.1.2.2.2.2.1⟩, Z.2.1, Z.2.2⟩
theorem gon_iff {h s : sV} {k : Nat} (W : WB h s k) : gonB s k = decide (bx s k 4 = nM1) := by
  obtain ⟨-, -, -, -, a4, -⟩ := W
  unfold gonB
  rcases a4 with ⟨x, y⟩ | ⟨x, y, z⟩
  · rw [x, y]; rfl
  · obtain ⟨n, n1, -, -, n4⟩ := x.ex
    have h1 : ¬ Int32.ofNat n = nM1 := by rw [nEqM (by omega)]; exact id
    rw [z, n1, decide_eq_false h1]
    decide +kernel
section
variable {e : dEnv} {d a Y : Nat} {A : bX} {h s : sV} {m : dMem}
theorem OK0.box (Z : OK0 Y A h s) {k : Nat} (hk : k < nbS s) : RB A s k ∧ WB h s k ∧ k < 24 := ⟨Z.1.2.2.2 k hk, Z.2.1.2.2.2.1 k hk, by have := Z.2.1.1.2.2; unfold nbS at hk; omega⟩
theorem OK0.nb (Z : OK0 Y A h s) : ∃ n, A.1 0 13 = Int32.ofNat n ∧ nbS s = n ∧ n ≤ 24 := by
  obtain ⟨n, h1, h2, -, h4⟩ := Z.2.1.1.ex
  exact ⟨n, Z.1.1.trans h1, h2, h4⟩
theorem OKA.nl (Z : OKA Y A h s) : ∃ n, A.1 0 12 = Int32.ofNat n ∧ nlS s = n ∧ n ≤ 24 := by
  obtain ⟨n, h1, h2, -, h4⟩ := Z.2.1.2.1.ex
  exact ⟨n, Z.1.1.trans h1, h2, h4⟩
theorem OK0.yr (Z : OK0 Y A h s) : A.1 0 14 = s 0 := Z.1.2.1
theorem OK0.mk (Z : OK0 Y A h s) : A.1 0 15 * A.1 0 16 = Int32.ofNat (mkN h) ∧ 1 ≤ mkN h ∧ mkN h ≤ 48 := by
  obtain ⟨-, -, ⟨e1, e2, -⟩, -⟩ := Z.1
  rw [e1, e2]
  exact WH_mk Z.2.2
/-- a box's class: number, periods, whether for ever -/
theorem OK0.cls (Z : OK0 Y A h s) {k : Nat} (hk : k < nbS s) : ∃ c, bx s k 0 = Int32.ofNat c ∧ clN s k = c ∧ c < 8 ∧ A.1 3 c = h (94 + c) ∧ A.1 4 c = h (102 + c) ∧ A.1 5 c = bI (forB s h k) ∧ h (110 + c) = bI (forB s h k) := by
  obtain ⟨-, ⟨b0, b1, -⟩, -⟩ := Z.box hk
  obtain ⟨c, c1, c2, -, c4⟩ := b0.ex
  have hc : clN s k = c := c2
  rw [hc] at b1
  obtain ⟨e1, e2, e3, -⟩ := Z.1.2.2.1.2.2.2.2.1 c b1
  obtain ⟨-, -, o3, -⟩ := Z.2.2.2.2.2.2.1 c b1
  have hf : h (110 + c) = bI (forB s h k) := by
    unfold forB
    rw [hc]
    obtain ⟨v, v1, -, -, v4⟩ := o3.ex
    rw [v1]
    have : v = 0 ∨ v = 1 := by omega
    rcases this with z | z <;> subst z <;> decide +kernel
  exact ⟨c, c1, hc, by omega, e1, e2, e3.trans hf, hf⟩
theorem OKA.box (Z : OKA Y A h s) {k : Nat} (hk : k < nbS s) : RB A s k ∧ WB h s k ∧ k < 24 := Z.z.box hk
theorem OKA.nb (Z : OKA Y A h s) : ∃ n, A.1 0 13 = Int32.ofNat n ∧ nbS s = n ∧ n ≤ 24 := Z.z.nb
theorem OKA.yr (Z : OKA Y A h s) : A.1 0 14 = s 0 := Z.z.yr
theorem k_dest (Z : OK0 Y A h s) {k : Nat} (hk : k < nbS s) : dN e (d + 1) 13 [.ref a, .int (Int32.ofNat k)] (ov TA 19 a A m) = rI (bI (gonB s k)) (ov TA 19 a A m) := by
  obtain ⟨⟨r0, r1, r2, r4, r3, r5, r6, r8, r9⟩, wb, hk24⟩ := Z.box hk
  rw [gon_iff wb]
  refine en13 A_c0 fun t ht => ?_
  obtain ⟨u, rfl⟩ := fu 19 ht rfl
  simp (disch := omega) only [q13_0, q13_1, q13_2, r4, bd_s, kI_r, kV_r, kL_r, rZ_1, rZ_0, rZ_b, rI_ite, bI_ite, ite_tf, ite_ft, bI0, bI1, bf_ite, nAdd, nMul, nLt, nEq, nEqM, nMEq, nMLt, nLtM, nMLt0, if_true, if_false, Nat.reduceAdd, Nat.reduceMul, Nat.zero_add, Nat.add_zero, decide_eq_true_eq, decide_true, decide_false, Nat.reduceEqDiff, Nat.reduceLT, Nat.reduceLeDiff, eq_self, Bool.false_eq_true, Bool.true_eq_false, Bool.not_eq_false', Bool.not_eq_true', ite_not, A_r0_0, A_r0_1, A_r0_2, A_r0_3, A_r0_4, A_r0_5, A_r0_6, A_r0_7, A_r0_8, A_r0_9, A_r0_10, A_r0_11, A_g0_12, A_g0_13, A_g0_14, A_g0_15, A_g0_16, A_r1_1, A_r1_2, A_r1_3, A_g1_4, A_r6_1, A_g6_2, A_a3, A_a4, A_a5, A_a8, A_a9, A_a10, A_a11, A_a12, A_a13, A_a14, A_a15, A_a16, A_a17, A_a18]
theorem k_lent (Z : OK0 Y A h s) {k : Nat} (hk : k < nbS s) : dN e (d + 1) 14 [.ref a, .int (Int32.ofNat k)] (ov TA 19 a A m) = rI (bI (!decide (bx s k 5 = nM1))) (ov TA 19 a A m) := by
  obtain ⟨⟨r0, r1, r2, r4, r3, r5, r6, r8, r9⟩, wb, hk24⟩ := Z.box hk
  refine en14 A_c0 fun t ht => ?_
  obtain ⟨u, rfl⟩ := fu 19 ht rfl
  simp (disch := omega) only [q14_0, q14_1, q14_2, r5, bd_s, kI_r, kV_r, kL_r, rZ_1, rZ_0, rZ_b, rI_ite, bI_ite, ite_tf, ite_ft, bI0, bI1, bf_ite, nAdd, nMul, nLt, nEq, nEqM, nMEq, nMLt, nLtM, nMLt0, if_true, if_false, Nat.reduceAdd, Nat.reduceMul, Nat.zero_add, Nat.add_zero, decide_eq_true_eq, decide_true, decide_false, Nat.reduceEqDiff, Nat.reduceLT, Nat.reduceLeDiff, eq_self, Bool.false_eq_true, Bool.true_eq_false, Bool.not_eq_false', Bool.not_eq_true', ite_not, A_r0_0, A_r0_1, A_r0_2, A_r0_3, A_r0_4, A_r0_5, A_r0_6, A_r0_7, A_r0_8, A_r0_9, A_r0_10, A_r0_11, A_g0_12, A_g0_13, A_g0_14, A_g0_15, A_g0_16, A_r1_1, A_r1_2, A_r1_3, A_g1_4, A_r6_1, A_g6_2, A_a3, A_a4, A_a5, A_a8, A_a9, A_a10, A_a11, A_a12, A_a13, A_a14, A_a15, A_a16, A_a17, A_a18]
theorem k_seal (Z : OK0 Y A h s) {k : Nat} (hk : k < nbS s) : dN e (d + 1) 15 [.ref a, .int (Int32.ofNat k)] (ov TA 19 a A m) = rI (bI (selB s k)) (ov TA 19 a A m) := by
  obtain ⟨⟨r0, r1, r2, r4, r3, r5, r6, r8, r9⟩, wb, hk24⟩ := Z.box hk
  have hy := Z.yr
  refine en15 A_c0 fun t ht => ?_
  obtain ⟨u, rfl⟩ := fu 19 ht rfl
  simp (disch := omega) only [q15_0, q15_1, q15_2, r3, hy, selB, bd_s, kI_r, kV_r, kL_r, rZ_1, rZ_0, rZ_b, rI_ite, bI_ite, ite_tf, ite_ft, bI0, bI1, bf_ite, nAdd, nMul, nLt, nEq, nEqM, nMEq, nMLt, nLtM, nMLt0, if_true, if_false, Nat.reduceAdd, Nat.reduceMul, Nat.zero_add, Nat.add_zero, decide_eq_true_eq, decide_true, decide_false, Nat.reduceEqDiff, Nat.reduceLT, Nat.reduceLeDiff, eq_self, Bool.false_eq_true, Bool.true_eq_false, Bool.not_eq_false', Bool.not_eq_true', ite_not, A_r0_0, A_r0_1, A_r0_2, A_r0_3, A_r0_4, A_r0_5, A_r0_6, A_r0_7, A_r0_8, A_r0_9, A_r0_10, A_r0_11, A_g0_12, A_g0_13, A_g0_14, A_g0_15, A_g0_16, A_r1_1, A_r1_2, A_r1_3, A_g1_4, A_r6_1, A_g6_2, A_a3, A_a4, A_a5, A_a8, A_a9, A_a10, A_a11, A_a12, A_a13, A_a14, A_a15, A_a16, A_a17, A_a18]
theorem k_perm (Z : OK0 Y A h s) {k : Nat} (hk : k < nbS s) : dN e (d + 1) 16 [.ref a, .int (Int32.ofNat k)] (ov TA 19 a A m) = rI (bI (forB s h k)) (ov TA 19 a A m) := by
  obtain ⟨⟨r0, r1, r2, r4, r3, r5, r6, r8, r9⟩, wb, hk24⟩ := Z.box hk
  obtain ⟨c, c1, c2, c3, c4, c5, c6, c7⟩ := Z.cls hk
  refine en16 A_c0 fun t ht => ?_
  obtain ⟨u, rfl⟩ := fu 19 ht rfl
  simp (disch := omega) only [q16_0, r0, c1, c6, bd_s, kI_r, kV_r, kL_r, rZ_1, rZ_0, rZ_b, rI_ite, bI_ite, ite_tf, ite_ft, bI0, bI1, bf_ite, nAdd, nMul, nLt, nEq, nEqM, nMEq, nMLt, nLtM, nMLt0, if_true, if_false, Nat.reduceAdd, Nat.reduceMul, Nat.zero_add, Nat.add_zero, decide_eq_true_eq, decide_true, decide_false, Nat.reduceEqDiff, Nat.reduceLT, Nat.reduceLeDiff, eq_self, Bool.false_eq_true, Bool.true_eq_false, Bool.not_eq_false', Bool.not_eq_true', ite_not, A_r0_0, A_r0_1, A_r0_2, A_r0_3, A_r0_4, A_r0_5, A_r0_6, A_r0_7, A_r0_8, A_r0_9, A_r0_10, A_r0_11, A_g0_12, A_g0_13, A_g0_14, A_g0_15, A_g0_16, A_r1_1, A_r1_2, A_r1_3, A_g1_4, A_r6_1, A_g6_2, A_a3, A_a4, A_a5, A_a8, A_a9, A_a10, A_a11, A_a12, A_a13, A_a14, A_a15, A_a16, A_a17, A_a18]
theorem k_open (Z : OK0 Y A h s) {k : Nat} (hk : k < nbS s) : dN e (d + 1) 17 [.ref a, .int (Int32.ofNat k)] (ov TA 19 a A m) = rI (bI (decide (bx s k 1 + h (102 + clN s k) < s 0))) (ov TA 19 a A m) := by
  obtain ⟨⟨r0, r1, r2, r4, r3, r5, r6, r8, r9⟩, wb, hk24⟩ := Z.box hk
  obtain ⟨c, c1, c2, c3, c4, c5, c6, c7⟩ := Z.cls hk
  have hy := Z.yr
  refine en17 A_c0 fun t ht => ?_
  obtain ⟨u, rfl⟩ := fu 19 ht rfl
  simp (disch := omega) only [q17_0, q17_1, q17_2, r0, r1, c1, c5, hy, c2, bd_s, kI_r, kV_r, kL_r, rZ_1, rZ_0, rZ_b, rI_ite, bI_ite, ite_tf, ite_ft, bI0, bI1, bf_ite, nAdd, nMul, nLt, nEq, nEqM, nMEq, nMLt, nLtM, nMLt0, if_true, if_false, Nat.reduceAdd, Nat.reduceMul, Nat.zero_add, Nat.add_zero, decide_eq_true_eq, decide_true, decide_false, Nat.reduceEqDiff, Nat.reduceLT, Nat.reduceLeDiff, eq_self, Bool.false_eq_true, Bool.true_eq_false, Bool.not_eq_false', Bool.not_eq_true', ite_not, A_r0_0, A_r0_1, A_r0_2, A_r0_3, A_r0_4, A_r0_5, A_r0_6, A_r0_7, A_r0_8, A_r0_9, A_r0_10, A_r0_11, A_g0_12, A_g0_13, A_g0_14, A_g0_15, A_g0_16, A_r1_1, A_r1_2, A_r1_3, A_g1_4, A_r6_1, A_g6_2, A_a3, A_a4, A_a5, A_a8, A_a9, A_a10, A_a11, A_a12, A_a13, A_a14, A_a15, A_a16, A_a17, A_a18]
theorem k_due (Z : OK0 Y A h s) {k : Nat} (hk : k < nbS s) : dN e (d + 1) 18 [.ref a, .int (Int32.ofNat k)] (ov TA 19 a A m) = rI (dueS s h k) (ov TA 19 a A m) := by
  obtain ⟨⟨r0, r1, r2, r4, r3, r5, r6, r8, r9⟩, wb, hk24⟩ := Z.box hk
  obtain ⟨c, c1, c2, c3, c4, c5, c6, c7⟩ := Z.cls hk
  refine en18 A_c0 fun t ht => ?_
  obtain ⟨u, rfl⟩ := fu 19 ht rfl
  simp (disch := omega) only [q18_0, r0, r1, r2, c1, c4, bd_s, kI_r, kV_r, kL_r, rZ_1, rZ_0, rZ_b, rI_ite, bI_ite, ite_tf, ite_ft, bI0, bI1, bf_ite, nAdd, nMul, nLt, nEq, nEqM, nMEq, nMLt, nLtM, nMLt0, if_true, if_false, Nat.reduceAdd, Nat.reduceMul, Nat.zero_add, Nat.add_zero, decide_eq_true_eq, decide_true, decide_false, Nat.reduceEqDiff, Nat.reduceLT, Nat.reduceLeDiff, eq_self, Bool.false_eq_true, Bool.true_eq_false, Bool.not_eq_false', Bool.not_eq_true', ite_not, A_r0_0, A_r0_1, A_r0_2, A_r0_3, A_r0_4, A_r0_5, A_r0_6, A_r0_7, A_r0_8, A_r0_9, A_r0_10, A_r0_11, A_g0_12, A_g0_13, A_g0_14, A_g0_15, A_g0_16, A_r1_1, A_r1_2, A_r1_3, A_g1_4, A_r6_1, A_g6_2, A_a3, A_a4, A_a5, A_a8, A_a9, A_a10, A_a11, A_a12, A_a13, A_a14, A_a15, A_a16, A_a17, A_a18]
  unfold dueS
  rw [c2]
theorem k_hin (Z : OK0 Y A h s) {k : Nat} (hk : k < nbS s) : dN e (d + 2) 23 [.ref a, .int (Int32.ofNat k)] (ov TA 19 a A m) = rI (hinS s h k) (ov TA 19 a A m) := by
  obtain ⟨⟨r0, r1, r2, r4, r3, r5, r6, r8, r9⟩, wb, hk24⟩ := Z.box hk
  have hy := Z.yr
  refine en23 A_c0 fun t ht => ?_
  obtain ⟨u, rfl⟩ := fu 19 ht rfl
  simp (disch := omega) only [q23_0, q23_1, q23_2, q23_3, q23_4, q23_5, q23_6, k_dest Z hk, k_perm Z hk, k_due Z hk, k_seal Z hk, k_lent Z hk, hy, hinS, bd_s, kI_r, kV_r, kL_r, rZ_1, rZ_0, rZ_b, rI_ite, bI_ite, ite_tf, ite_ft, bI0, bI1, bf_ite, nAdd, nMul, nLt, nEq, nEqM, nMEq, nMLt, nLtM, nMLt0, if_true, if_false, Nat.reduceAdd, Nat.reduceMul, Nat.zero_add, Nat.add_zero, decide_eq_true_eq, decide_true, decide_false, Nat.reduceEqDiff, Nat.reduceLT, Nat.reduceLeDiff, eq_self, Bool.false_eq_true, Bool.true_eq_false, Bool.not_eq_false', Bool.not_eq_true', ite_not, A_r0_0, A_r0_1, A_r0_2, A_r0_3, A_r0_4, A_r0_5, A_r0_6, A_r0_7, A_r0_8, A_r0_9, A_r0_10, A_r0_11, A_g0_12, A_g0_13, A_g0_14, A_g0_15, A_g0_16, A_r1_1, A_r1_2, A_r1_3, A_g1_4, A_r6_1, A_g6_2, A_a3, A_a4, A_a5, A_a8, A_a9, A_a10, A_a11, A_a12, A_a13, A_a14, A_a15, A_a16, A_a17, A_a18]
theorem k_boxOn (Z : OK0 Y A h s) {x : Int32} : dN e (d + 1) 7 [.ref a, .int x] (ov TA 19 a A m) = rI (boxOnS s x) (ov TA 19 a A m) := by
  obtain ⟨n, hb, hn0, hn⟩ := Z.nb
  refine en7 A_c0 fun t ht => ?_
  obtain ⟨u, rfl⟩ := fu 1 ht rfl
  rw [q7_0]
  unfold boxOnS
  rw [hn0]
  refine lp_fI (c := 2) (n := n) (G := fun t k => runL e (dN e d) 7 t 1 [some (.ref a), some (.int (x)), some (.int (Int32.ofNat k))] [] (ov TA 19 a A m)) ?_ ?_ ?_ u (by omega)
  · intro t k hk hp
    have r4 := (Z.box (show k < nbS s by omega)).1.2.2.2.1
    have hp : ¬ (bx s k 4 = x) := of_decide_eq_false hp
    simp (disch := omega) only [q7_1, q7_2, q7_3, hb, hk, r4, hp, bd_s, kI_r, kV_r, kL_r, rZ_1, rZ_0, rZ_b, rI_ite, bI_ite, ite_tf, ite_ft, bI0, bI1, bf_ite, nAdd, nMul, nLt, nEq, nEqM, nMEq, nMLt, nLtM, nMLt0, if_true, if_false, Nat.reduceAdd, Nat.reduceMul, Nat.zero_add, Nat.add_zero, decide_eq_true_eq, decide_true, decide_false, Nat.reduceEqDiff, Nat.reduceLT, Nat.reduceLeDiff, eq_self, Bool.false_eq_true, Bool.true_eq_false, Bool.not_eq_false', Bool.not_eq_true', ite_not, A_r0_0, A_r0_1, A_r0_2, A_r0_3, A_r0_4, A_r0_5, A_r0_6, A_r0_7, A_r0_8, A_r0_9, A_r0_10, A_r0_11, A_g0_12, A_g0_13, A_g0_14, A_g0_15, A_g0_16, A_r1_1, A_r1_2, A_r1_3, A_g1_4, A_r6_1, A_g6_2, A_a3, A_a4, A_a5, A_a8, A_a9, A_a10, A_a11, A_a12, A_a13, A_a14, A_a15, A_a16, A_a17, A_a18]
  · intro t k hk hp
    have r4 := (Z.box (show k < nbS s by omega)).1.2.2.2.1
    have hp : bx s k 4 = x := of_decide_eq_true hp
    simp (disch := omega) only [q7_1, q7_2, q7_3, hb, hk, r4, hp, bd_s, kI_r, kV_r, kL_r, rZ_1, rZ_0, rZ_b, rI_ite, bI_ite, ite_tf, ite_ft, bI0, bI1, bf_ite, nAdd, nMul, nLt, nEq, nEqM, nMEq, nMLt, nLtM, nMLt0, if_true, if_false, Nat.reduceAdd, Nat.reduceMul, Nat.zero_add, Nat.add_zero, decide_eq_true_eq, decide_true, decide_false, Nat.reduceEqDiff, Nat.reduceLT, Nat.reduceLeDiff, eq_self, Bool.false_eq_true, Bool.true_eq_false, Bool.not_eq_false', Bool.not_eq_true', ite_not, A_r0_0, A_r0_1, A_r0_2, A_r0_3, A_r0_4, A_r0_5, A_r0_6, A_r0_7, A_r0_8, A_r0_9, A_r0_10, A_r0_11, A_g0_12, A_g0_13, A_g0_14, A_g0_15, A_g0_16, A_r1_1, A_r1_2, A_r1_3, A_g1_4, A_r6_1, A_g6_2, A_a3, A_a4, A_a5, A_a8, A_a9, A_a10, A_a11, A_a12, A_a13, A_a14, A_a15, A_a16, A_a17, A_a18]
  · intro t
    simp (disch := omega) only [q7_1, q7_2, q7_3, hb, Nat.lt_irrefl, bd_s, kI_r, kV_r, kL_r, rZ_1, rZ_0, rZ_b, rI_ite, bI_ite, ite_tf, ite_ft, bI0, bI1, bf_ite, nAdd, nMul, nLt, nEq, nEqM, nMEq, nMLt, nLtM, nMLt0, if_true, if_false, Nat.reduceAdd, Nat.reduceMul, Nat.zero_add, Nat.add_zero, decide_eq_true_eq, decide_true, decide_false, Nat.reduceEqDiff, Nat.reduceLT, Nat.reduceLeDiff, eq_self, Bool.false_eq_true, Bool.true_eq_false, Bool.not_eq_false', Bool.not_eq_true', ite_not, A_r0_0, A_r0_1, A_r0_2, A_r0_3, A_r0_4, A_r0_5, A_r0_6, A_r0_7, A_r0_8, A_r0_9, A_r0_10, A_r0_11, A_g0_12, A_g0_13, A_g0_14, A_g0_15, A_g0_16, A_r1_1, A_r1_2, A_r1_3, A_g1_4, A_r6_1, A_g6_2, A_a3, A_a4, A_a5, A_a8, A_a9, A_a10, A_a11, A_a12, A_a13, A_a14, A_a15, A_a16, A_a17, A_a18]
theorem k_places (Z : OK0 Y A h s) : dN e (d + 1) 3 [.ref a] (ov TA 19 a A m) = rI (Int32.ofNat (mkN h)) (ov TA 19 a A m) := by
  obtain ⟨hm, -, -⟩ := Z.mk
  refine en3 A_c0 fun t ht => ?_
  obtain ⟨u, rfl⟩ := fu 19 ht rfl
  simp (disch := omega) only [q3_0, hm, bd_s, kI_r, kV_r, kL_r, rZ_1, rZ_0, rZ_b, rI_ite, bI_ite, ite_tf, ite_ft, bI0, bI1, bf_ite, nAdd, nMul, nLt, nEq, nEqM, nMEq, nMLt, nLtM, nMLt0, if_true, if_false, Nat.reduceAdd, Nat.reduceMul, Nat.zero_add, Nat.add_zero, decide_eq_true_eq, decide_true, decide_false, Nat.reduceEqDiff, Nat.reduceLT, Nat.reduceLeDiff, eq_self, Bool.false_eq_true, Bool.true_eq_false, Bool.not_eq_false', Bool.not_eq_true', ite_not, A_r0_0, A_r0_1, A_r0_2, A_r0_3, A_r0_4, A_r0_5, A_r0_6, A_r0_7, A_r0_8, A_r0_9, A_r0_10, A_r0_11, A_g0_12, A_g0_13, A_g0_14, A_g0_15, A_g0_16, A_r1_1, A_r1_2, A_r1_3, A_g1_4, A_r6_1, A_g6_2, A_a3, A_a4, A_a5, A_a8, A_a9, A_a10, A_a11, A_a12, A_a13, A_a14, A_a15, A_a16, A_a17, A_a18]
theorem k_fst (Z : OK0 Y A h s) : dN e (d + 2) 8 [.ref a] (ov TA 19 a A m) = rI (fstS s h) (ov TA 19 a A m) := by
  obtain ⟨-, -, hn⟩ := Z.mk
  refine en8 A_c0 fun t ht => ?_
  obtain ⟨u, rfl⟩ := fu 1 ht rfl
  rw [q8_0]
  unfold fstS
  refine lp_fI (c := 2) (n := mkN h) (G := fun t k => runL e (dN e (d + 1)) 8 t 1 [some (.ref a), some (.int (Int32.ofNat k))] [] (ov TA 19 a A m)) ?_ ?_ ?_ u (by omega)
  · intro t k hk hp
    have hp : ¬ (boxOnS s (Int32.ofNat k) = nM1) := of_decide_eq_false hp
    simp (disch := omega) only [q8_1, q8_2, q8_3, k_places Z, k_boxOn Z, hk, hp, bd_s, kI_r, kV_r, kL_r, rZ_1, rZ_0, rZ_b, rI_ite, bI_ite, ite_tf, ite_ft, bI0, bI1, bf_ite, nAdd, nMul, nLt, nEq, nEqM, nMEq, nMLt, nLtM, nMLt0, if_true, if_false, Nat.reduceAdd, Nat.reduceMul, Nat.zero_add, Nat.add_zero, decide_eq_true_eq, decide_true, decide_false, Nat.reduceEqDiff, Nat.reduceLT, Nat.reduceLeDiff, eq_self, Bool.false_eq_true, Bool.true_eq_false, Bool.not_eq_false', Bool.not_eq_true', ite_not, A_r0_0, A_r0_1, A_r0_2, A_r0_3, A_r0_4, A_r0_5, A_r0_6, A_r0_7, A_r0_8, A_r0_9, A_r0_10, A_r0_11, A_g0_12, A_g0_13, A_g0_14, A_g0_15, A_g0_16, A_r1_1, A_r1_2, A_r1_3, A_g1_4, A_r6_1, A_g6_2, A_a3, A_a4, A_a5, A_a8, A_a9, A_a10, A_a11, A_a12, A_a13, A_a14, A_a15, A_a16, A_a17, A_a18]
  · intro t k hk hp
    have hp : boxOnS s (Int32.ofNat k) = nM1 := of_decide_eq_true hp
    simp (disch := omega) only [q8_1, q8_2, q8_3, k_places Z, k_boxOn Z, hk, hp, bd_s, kI_r, kV_r, kL_r, rZ_1, rZ_0, rZ_b, rI_ite, bI_ite, ite_tf, ite_ft, bI0, bI1, bf_ite, nAdd, nMul, nLt, nEq, nEqM, nMEq, nMLt, nLtM, nMLt0, if_true, if_false, Nat.reduceAdd, Nat.reduceMul, Nat.zero_add, Nat.add_zero, decide_eq_true_eq, decide_true, decide_false, Nat.reduceEqDiff, Nat.reduceLT, Nat.reduceLeDiff, eq_self, Bool.false_eq_true, Bool.true_eq_false, Bool.not_eq_false', Bool.not_eq_true', ite_not, A_r0_0, A_r0_1, A_r0_2, A_r0_3, A_r0_4, A_r0_5, A_r0_6, A_r0_7, A_r0_8, A_r0_9, A_r0_10, A_r0_11, A_g0_12, A_g0_13, A_g0_14, A_g0_15, A_g0_16, A_r1_1, A_r1_2, A_r1_3, A_g1_4, A_r6_1, A_g6_2, A_a3, A_a4, A_a5, A_a8, A_a9, A_a10, A_a11, A_a12, A_a13, A_a14, A_a15, A_a16, A_a17, A_a18]
  · intro t
    simp (disch := omega) only [q8_1, q8_2, q8_3, k_places Z, k_boxOn Z, Nat.lt_irrefl, bd_s, kI_r, kV_r, kL_r, rZ_1, rZ_0, rZ_b, rI_ite, bI_ite, ite_tf, ite_ft, bI0, bI1, bf_ite, nAdd, nMul, nLt, nEq, nEqM, nMEq, nMLt, nLtM, nMLt0, if_true, if_false, Nat.reduceAdd, Nat.reduceMul, Nat.zero_add, Nat.add_zero, decide_eq_true_eq, decide_true, decide_false, Nat.reduceEqDiff, Nat.reduceLT, Nat.reduceLeDiff, eq_self, Bool.false_eq_true, Bool.true_eq_false, Bool.not_eq_false', Bool.not_eq_true', ite_not, A_r0_0, A_r0_1, A_r0_2, A_r0_3, A_r0_4, A_r0_5, A_r0_6, A_r0_7, A_r0_8, A_r0_9, A_r0_10, A_r0_11, A_g0_12, A_g0_13, A_g0_14, A_g0_15, A_g0_16, A_r1_1, A_r1_2, A_r1_3, A_g1_4, A_r6_1, A_g6_2, A_a3, A_a4, A_a5, A_a8, A_a9, A_a10, A_a11, A_a12, A_a13, A_a14, A_a15, A_a16, A_a17, A_a18]
theorem k_free (Z : OK0 Y A h s) : dN e (d + 2) 9 [.ref a] (ov TA 19 a A m) = rI (Int32.ofNat (freS s h)) (ov TA 19 a A m) := by
  obtain ⟨-, -, hn⟩ := Z.mk
  refine en9 A_c0 fun t ht => ?_
  obtain ⟨u, rfl⟩ := fu 1 ht rfl
  rw [q9_0]
  unfold freS
  refine lp_up2 (c := 3) (n := mkN h) (G := fun t k => runL e (dN e (d + 1)) 9 t 1 [some (.ref a), some (.int (Int32.ofNat (cnt (frB s) k))), some (.int (Int32.ofNat k))] [] (ov TA 19 a A m)) (fun k hk => ?_) (fun t => ?_) u (by omega)
  · cases hp : (frB s) k with
    | true =>
      have hp' : boxOnS s (Int32.ofNat k) = nM1 := of_decide_eq_true hp
      refine ⟨2, by omega, fun t => ?_⟩
      simp (disch := omega) only [q9_1, q9_2, q9_3, k_places Z, k_boxOn Z, hk, hp', cnt_t (p := frB s) (k := k) hp, bd_s, kI_r, kV_r, kL_r, rZ_1, rZ_0, rZ_b, rI_ite, bI_ite, ite_tf, ite_ft, bI0, bI1, bf_ite, nAdd, nMul, nLt, nEq, nEqM, nMEq, nMLt, nLtM, nMLt0, if_true, if_false, Nat.reduceAdd, Nat.reduceMul, Nat.zero_add, Nat.add_zero, decide_eq_true_eq, decide_true, decide_false, Nat.reduceEqDiff, Nat.reduceLT, Nat.reduceLeDiff, eq_self, Bool.false_eq_true, Bool.true_eq_false, Bool.not_eq_false', Bool.not_eq_true', ite_not, A_r0_0, A_r0_1, A_r0_2, A_r0_3, A_r0_4, A_r0_5, A_r0_6, A_r0_7, A_r0_8, A_r0_9, A_r0_10, A_r0_11, A_g0_12, A_g0_13, A_g0_14, A_g0_15, A_g0_16, A_r1_1, A_r1_2, A_r1_3, A_g1_4, A_r6_1, A_g6_2, A_a3, A_a4, A_a5, A_a8, A_a9, A_a10, A_a11, A_a12, A_a13, A_a14, A_a15, A_a16, A_a17, A_a18]
    | false =>
      have hp' : ¬ (boxOnS s (Int32.ofNat k) = nM1) := of_decide_eq_false hp
      refine ⟨2, by omega, fun t => ?_⟩
      simp (disch := omega) only [q9_1, q9_2, q9_3, k_places Z, k_boxOn Z, hk, hp', cnt_f (p := frB s) (k := k) hp, bd_s, kI_r, kV_r, kL_r, rZ_1, rZ_0, rZ_b, rI_ite, bI_ite, ite_tf, ite_ft, bI0, bI1, bf_ite, nAdd, nMul, nLt, nEq, nEqM, nMEq, nMLt, nLtM, nMLt0, if_true, if_false, Nat.reduceAdd, Nat.reduceMul, Nat.zero_add, Nat.add_zero, decide_eq_true_eq, decide_true, decide_false, Nat.reduceEqDiff, Nat.reduceLT, Nat.reduceLeDiff, eq_self, Bool.false_eq_true, Bool.true_eq_false, Bool.not_eq_false', Bool.not_eq_true', ite_not, A_r0_0, A_r0_1, A_r0_2, A_r0_3, A_r0_4, A_r0_5, A_r0_6, A_r0_7, A_r0_8, A_r0_9, A_r0_10, A_r0_11, A_g0_12, A_g0_13, A_g0_14, A_g0_15, A_g0_16, A_r1_1, A_r1_2, A_r1_3, A_g1_4, A_r6_1, A_g6_2, A_a3, A_a4, A_a5, A_a8, A_a9, A_a10, A_a11, A_a12, A_a13, A_a14, A_a15, A_a16, A_a17, A_a18]
  · simp (disch := omega) only [q9_1, q9_2, q9_3, k_places Z, k_boxOn Z, Nat.lt_irrefl, bd_s, kI_r, kV_r, kL_r, rZ_1, rZ_0, rZ_b, rI_ite, bI_ite, ite_tf, ite_ft, bI0, bI1, bf_ite, nAdd, nMul, nLt, nEq, nEqM, nMEq, nMLt, nLtM, nMLt0, if_true, if_false, Nat.reduceAdd, Nat.reduceMul, Nat.zero_add, Nat.add_zero, decide_eq_true_eq, decide_true, decide_false, Nat.reduceEqDiff, Nat.reduceLT, Nat.reduceLeDiff, eq_self, Bool.false_eq_true, Bool.true_eq_false, Bool.not_eq_false', Bool.not_eq_true', ite_not, A_r0_0, A_r0_1, A_r0_2, A_r0_3, A_r0_4, A_r0_5, A_r0_6, A_r0_7, A_r0_8, A_r0_9, A_r0_10, A_r0_11, A_g0_12, A_g0_13, A_g0_14, A_g0_15, A_g0_16, A_r1_1, A_r1_2, A_r1_3, A_g1_4, A_r6_1, A_g6_2, A_a3, A_a4, A_a5, A_a8, A_a9, A_a10, A_a11, A_a12, A_a13, A_a14, A_a15, A_a16, A_a17, A_a18]
def kepN (s : sV) : Nat := cnt (fun k => !gonB s k) (nbS s)
theorem kep_gon {h s : sV} {n : Nat} (W : ∀ k, k < n → WB h s k) : sumI (fun k => bx s k 7) n = Int32.ofNat (cnt (gonB s) n) := by
  induction n with
  | zero => rfl
  | succ n ih =>
    have ih := ih (fun k hk => W k (by omega))
    obtain ⟨-, -, -, -, a4, -⟩ := W n (by omega)
    show sumI _ n + bx s n 7 = Int32.ofNat (cnt (gonB s) n + (bif gonB s n then 1 else 0))
    rw [ih]
    rcases a4 with ⟨x, y⟩ | ⟨x, y, z⟩
    · have : gonB s n = true := by unfold gonB; rw [y]; rfl
      rw [y, this, nAdd]; rfl
    · have : gonB s n = false := by unfold gonB; rw [z]; decide +kernel
      rw [z, this, nAdd]; rfl
theorem k_kept (Z : OK0 Y A h s) : dN e (d + 2) 19 [.ref a] (ov TA 19 a A m) = rI (Int32.ofNat (kepN s)) (ov TA 19 a A m) := by
  obtain ⟨n, hb, hn0, hn⟩ := Z.nb
  refine en19 A_c0 fun t ht => ?_
  obtain ⟨u, rfl⟩ := fu 1 ht rfl
  rw [q19_0]
  unfold kepN
  rw [hn0]
  refine lp_up2 (c := 3) (n := n) (G := fun t k => runL e (dN e (d + 1)) 19 t 1 [some (.ref a), some (.int (Int32.ofNat (cnt (fun k => !gonB s k) k))), some (.int (Int32.ofNat k))] [] (ov TA 19 a A m)) (fun k hk => ?_) (fun t => ?_) u (by omega)
  · have hk0 : k < nbS s := by omega
    obtain ⟨⟨r0, r1, r2, r4, r3, r5, r6, r8, r9⟩, wb, hk24⟩ := Z.box hk0
    cases hp : (fun k => !gonB s k) k with
    | true =>
      have hp' : ¬ (gonB s k = true) := by simpa using hp
      refine ⟨2, by omega, fun t => ?_⟩
      simp (disch := omega) only [q19_1, q19_2, q19_3, hb, k_dest Z hk0, hk, hp', cnt_t (p := fun k => !gonB s k) (k := k) hp, bd_s, kI_r, kV_r, kL_r, rZ_1, rZ_0, rZ_b, rI_ite, bI_ite, ite_tf, ite_ft, bI0, bI1, bf_ite, nAdd, nMul, nLt, nEq, nEqM, nMEq, nMLt, nLtM, nMLt0, if_true, if_false, Nat.reduceAdd, Nat.reduceMul, Nat.zero_add, Nat.add_zero, decide_eq_true_eq, decide_true, decide_false, Nat.reduceEqDiff, Nat.reduceLT, Nat.reduceLeDiff, eq_self, Bool.false_eq_true, Bool.true_eq_false, Bool.not_eq_false', Bool.not_eq_true', ite_not, A_r0_0, A_r0_1, A_r0_2, A_r0_3, A_r0_4, A_r0_5, A_r0_6, A_r0_7, A_r0_8, A_r0_9, A_r0_10, A_r0_11, A_g0_12, A_g0_13, A_g0_14, A_g0_15, A_g0_16, A_r1_1, A_r1_2, A_r1_3, A_g1_4, A_r6_1, A_g6_2, A_a3, A_a4, A_a5, A_a8, A_a9, A_a10, A_a11, A_a12, A_a13, A_a14, A_a15, A_a16, A_a17, A_a18]
    | false =>
      have hp' : gonB s k = true := by simpa using hp
      refine ⟨2, by omega, fun t => ?_⟩
      simp (disch := omega) only [q19_1, q19_2, q19_3, hb, k_dest Z hk0, hk, hp', cnt_f (p := fun k => !gonB s k) (k := k) hp, bd_s, kI_r, kV_r, kL_r, rZ_1, rZ_0, rZ_b, rI_ite, bI_ite, ite_tf, ite_ft, bI0, bI1, bf_ite, nAdd, nMul, nLt, nEq, nEqM, nMEq, nMLt, nLtM, nMLt0, if_true, if_false, Nat.reduceAdd, Nat.reduceMul, Nat.zero_add, Nat.add_zero, decide_eq_true_eq, decide_true, decide_false, Nat.reduceEqDiff, Nat.reduceLT, Nat.reduceLeDiff, eq_self, Bool.false_eq_true, Bool.true_eq_false, Bool.not_eq_false', Bool.not_eq_true', ite_not, A_r0_0, A_r0_1, A_r0_2, A_r0_3, A_r0_4, A_r0_5, A_r0_6, A_r0_7, A_r0_8, A_r0_9, A_r0_10, A_r0_11, A_g0_12, A_g0_13, A_g0_14, A_g0_15, A_g0_16, A_r1_1, A_r1_2, A_r1_3, A_g1_4, A_r6_1, A_g6_2, A_a3, A_a4, A_a5, A_a8, A_a9, A_a10, A_a11, A_a12, A_a13, A_a14, A_a15, A_a16, A_a17, A_a18]
  · simp (disch := omega) only [q19_1, q19_2, q19_3, hb, Nat.lt_irrefl, bd_s, kI_r, kV_r, kL_r, rZ_1, rZ_0, rZ_b, rI_ite, bI_ite, ite_tf, ite_ft, bI0, bI1, bf_ite, nAdd, nMul, nLt, nEq, nEqM, nMEq, nMLt, nLtM, nMLt0, if_true, if_false, Nat.reduceAdd, Nat.reduceMul, Nat.zero_add, Nat.add_zero, decide_eq_true_eq, decide_true, decide_false, Nat.reduceEqDiff, Nat.reduceLT, Nat.reduceLeDiff, eq_self, Bool.false_eq_true, Bool.true_eq_false, Bool.not_eq_false', Bool.not_eq_true', ite_not, A_r0_0, A_r0_1, A_r0_2, A_r0_3, A_r0_4, A_r0_5, A_r0_6, A_r0_7, A_r0_8, A_r0_9, A_r0_10, A_r0_11, A_g0_12, A_g0_13, A_g0_14, A_g0_15, A_g0_16, A_r1_1, A_r1_2, A_r1_3, A_g1_4, A_r6_1, A_g6_2, A_a3, A_a4, A_a5, A_a8, A_a9, A_a10, A_a11, A_a12, A_a13, A_a14, A_a15, A_a16, A_a17, A_a18]
theorem k_lentN (Z : OK0 Y A h s) : dN e (d + 2) 20 [.ref a] (ov TA 19 a A m) = rI (Int32.ofNat (lntN s)) (ov TA 19 a A m) := by
  obtain ⟨n, hb, hn0, hn⟩ := Z.nb
  refine en20 A_c0 fun t ht => ?_
  obtain ⟨u, rfl⟩ := fu 1 ht rfl
  rw [q20_0]
  unfold lntN
  rw [hn0]
  refine lp_up2 (c := 3) (n := n) (G := fun t k => runL e (dN e (d + 1)) 20 t 1 [some (.ref a), some (.int (Int32.ofNat (cnt (fun k => !decide (bx s k 5 = nM1)) k))), some (.int (Int32.ofNat k))] [] (ov TA 19 a A m)) (fun k hk => ?_) (fun t => ?_) u (by omega)
  · have hk0 : k < nbS s := by omega
    obtain ⟨⟨r0, r1, r2, r4, r3, r5, r6, r8, r9⟩, wb, hk24⟩ := Z.box hk0
    cases hp : (fun k => !decide (bx s k 5 = nM1)) k with
    | true =>
      have hp' : ¬ (bx s k 5 = nM1) := by simpa using hp
      refine ⟨2, by omega, fun t => ?_⟩
      simp (disch := omega) only [q20_1, q20_2, q20_3, hb, k_lent Z hk0, hk, hp', cnt_t (p := fun k => !decide (bx s k 5 = nM1)) (k := k) hp, bd_s, kI_r, kV_r, kL_r, rZ_1, rZ_0, rZ_b, rI_ite, bI_ite, ite_tf, ite_ft, bI0, bI1, bf_ite, nAdd, nMul, nLt, nEq, nEqM, nMEq, nMLt, nLtM, nMLt0, if_true, if_false, Nat.reduceAdd, Nat.reduceMul, Nat.zero_add, Nat.add_zero, decide_eq_true_eq, decide_true, decide_false, Nat.reduceEqDiff, Nat.reduceLT, Nat.reduceLeDiff, eq_self, Bool.false_eq_true, Bool.true_eq_false, Bool.not_eq_false', Bool.not_eq_true', ite_not, A_r0_0, A_r0_1, A_r0_2, A_r0_3, A_r0_4, A_r0_5, A_r0_6, A_r0_7, A_r0_8, A_r0_9, A_r0_10, A_r0_11, A_g0_12, A_g0_13, A_g0_14, A_g0_15, A_g0_16, A_r1_1, A_r1_2, A_r1_3, A_g1_4, A_r6_1, A_g6_2, A_a3, A_a4, A_a5, A_a8, A_a9, A_a10, A_a11, A_a12, A_a13, A_a14, A_a15, A_a16, A_a17, A_a18]
    | false =>
      have hp' : bx s k 5 = nM1 := by simpa using hp
      refine ⟨2, by omega, fun t => ?_⟩
      simp (disch := omega) only [q20_1, q20_2, q20_3, hb, k_lent Z hk0, hk, hp', cnt_f (p := fun k => !decide (bx s k 5 = nM1)) (k := k) hp, bd_s, kI_r, kV_r, kL_r, rZ_1, rZ_0, rZ_b, rI_ite, bI_ite, ite_tf, ite_ft, bI0, bI1, bf_ite, nAdd, nMul, nLt, nEq, nEqM, nMEq, nMLt, nLtM, nMLt0, if_true, if_false, Nat.reduceAdd, Nat.reduceMul, Nat.zero_add, Nat.add_zero, decide_eq_true_eq, decide_true, decide_false, Nat.reduceEqDiff, Nat.reduceLT, Nat.reduceLeDiff, eq_self, Bool.false_eq_true, Bool.true_eq_false, Bool.not_eq_false', Bool.not_eq_true', ite_not, A_r0_0, A_r0_1, A_r0_2, A_r0_3, A_r0_4, A_r0_5, A_r0_6, A_r0_7, A_r0_8, A_r0_9, A_r0_10, A_r0_11, A_g0_12, A_g0_13, A_g0_14, A_g0_15, A_g0_16, A_r1_1, A_r1_2, A_r1_3, A_g1_4, A_r6_1, A_g6_2, A_a3, A_a4, A_a5, A_a8, A_a9, A_a10, A_a11, A_a12, A_a13, A_a14, A_a15, A_a16, A_a17, A_a18]
  · simp (disch := omega) only [q20_1, q20_2, q20_3, hb, Nat.lt_irrefl, bd_s, kI_r, kV_r, kL_r, rZ_1, rZ_0, rZ_b, rI_ite, bI_ite, ite_tf, ite_ft, bI0, bI1, bf_ite, nAdd, nMul, nLt, nEq, nEqM, nMEq, nMLt, nLtM, nMLt0, if_true, if_false, Nat.reduceAdd, Nat.reduceMul, Nat.zero_add, Nat.add_zero, decide_eq_true_eq, decide_true, decide_false, Nat.reduceEqDiff, Nat.reduceLT, Nat.reduceLeDiff, eq_self, Bool.false_eq_true, Bool.true_eq_false, Bool.not_eq_false', Bool.not_eq_true', ite_not, A_r0_0, A_r0_1, A_r0_2, A_r0_3, A_r0_4, A_r0_5, A_r0_6, A_r0_7, A_r0_8, A_r0_9, A_r0_10, A_r0_11, A_g0_12, A_g0_13, A_g0_14, A_g0_15, A_g0_16, A_r1_1, A_r1_2, A_r1_3, A_g1_4, A_r6_1, A_g6_2, A_a3, A_a4, A_a5, A_a8, A_a9, A_a10, A_a11, A_a12, A_a13, A_a14, A_a15, A_a16, A_a17, A_a18]
theorem k_held (Z : OK0 Y A h s) {x : Int32} : dN e (d + 1) 30 [.ref a, .int x] (ov TA 19 a A m) = rI (Int32.ofNat (lonN s x)) (ov TA 19 a A m) := by
  obtain ⟨n, hb, hn0, hn⟩ := Z.nb
  refine en30 A_c0 fun t ht => ?_
  obtain ⟨u, rfl⟩ := fu 1 ht rfl
  rw [q30_0]
  unfold lonN
  rw [hn0]
  refine lp_up2 (c := 3) (n := n) (G := fun t k => runL e (dN e d) 30 t 1 [some (.ref a), some (.int (x)), some (.int (Int32.ofNat (cnt (fun k => decide (bx s k 5 = x)) k))), some (.int (Int32.ofNat k))] [] (ov TA 19 a A m)) (fun k hk => ?_) (fun t => ?_) u (by omega)
  · have hk0 : k < nbS s := by omega
    obtain ⟨⟨r0, r1, r2, r4, r3, r5, r6, r8, r9⟩, wb, hk24⟩ := Z.box hk0
    cases hp : (fun k => decide (bx s k 5 = x)) k with
    | true =>
      have hp' : bx s k 5 = x := of_decide_eq_true hp
      refine ⟨2, by omega, fun t => ?_⟩
      simp (disch := omega) only [q30_1, q30_2, q30_3, hb, r5, hk, hp', cnt_t (p := fun k => decide (bx s k 5 = x)) (k := k) hp, bd_s, kI_r, kV_r, kL_r, rZ_1, rZ_0, rZ_b, rI_ite, bI_ite, ite_tf, ite_ft, bI0, bI1, bf_ite, nAdd, nMul, nLt, nEq, nEqM, nMEq, nMLt, nLtM, nMLt0, if_true, if_false, Nat.reduceAdd, Nat.reduceMul, Nat.zero_add, Nat.add_zero, decide_eq_true_eq, decide_true, decide_false, Nat.reduceEqDiff, Nat.reduceLT, Nat.reduceLeDiff, eq_self, Bool.false_eq_true, Bool.true_eq_false, Bool.not_eq_false', Bool.not_eq_true', ite_not, A_r0_0, A_r0_1, A_r0_2, A_r0_3, A_r0_4, A_r0_5, A_r0_6, A_r0_7, A_r0_8, A_r0_9, A_r0_10, A_r0_11, A_g0_12, A_g0_13, A_g0_14, A_g0_15, A_g0_16, A_r1_1, A_r1_2, A_r1_3, A_g1_4, A_r6_1, A_g6_2, A_a3, A_a4, A_a5, A_a8, A_a9, A_a10, A_a11, A_a12, A_a13, A_a14, A_a15, A_a16, A_a17, A_a18]
    | false =>
      have hp' : ¬ (bx s k 5 = x) := of_decide_eq_false hp
      refine ⟨2, by omega, fun t => ?_⟩
      simp (disch := omega) only [q30_1, q30_2, q30_3, hb, r5, hk, hp', cnt_f (p := fun k => decide (bx s k 5 = x)) (k := k) hp, bd_s, kI_r, kV_r, kL_r, rZ_1, rZ_0, rZ_b, rI_ite, bI_ite, ite_tf, ite_ft, bI0, bI1, bf_ite, nAdd, nMul, nLt, nEq, nEqM, nMEq, nMLt, nLtM, nMLt0, if_true, if_false, Nat.reduceAdd, Nat.reduceMul, Nat.zero_add, Nat.add_zero, decide_eq_true_eq, decide_true, decide_false, Nat.reduceEqDiff, Nat.reduceLT, Nat.reduceLeDiff, eq_self, Bool.false_eq_true, Bool.true_eq_false, Bool.not_eq_false', Bool.not_eq_true', ite_not, A_r0_0, A_r0_1, A_r0_2, A_r0_3, A_r0_4, A_r0_5, A_r0_6, A_r0_7, A_r0_8, A_r0_9, A_r0_10, A_r0_11, A_g0_12, A_g0_13, A_g0_14, A_g0_15, A_g0_16, A_r1_1, A_r1_2, A_r1_3, A_g1_4, A_r6_1, A_g6_2, A_a3, A_a4, A_a5, A_a8, A_a9, A_a10, A_a11, A_a12, A_a13, A_a14, A_a15, A_a16, A_a17, A_a18]
  · simp (disch := omega) only [q30_1, q30_2, q30_3, hb, Nat.lt_irrefl, bd_s, kI_r, kV_r, kL_r, rZ_1, rZ_0, rZ_b, rI_ite, bI_ite, ite_tf, ite_ft, bI0, bI1, bf_ite, nAdd, nMul, nLt, nEq, nEqM, nMEq, nMLt, nLtM, nMLt0, if_true, if_false, Nat.reduceAdd, Nat.reduceMul, Nat.zero_add, Nat.add_zero, decide_eq_true_eq, decide_true, decide_false, Nat.reduceEqDiff, Nat.reduceLT, Nat.reduceLeDiff, eq_self, Bool.false_eq_true, Bool.true_eq_false, Bool.not_eq_false', Bool.not_eq_true', ite_not, A_r0_0, A_r0_1, A_r0_2, A_r0_3, A_r0_4, A_r0_5, A_r0_6, A_r0_7, A_r0_8, A_r0_9, A_r0_10, A_r0_11, A_g0_12, A_g0_13, A_g0_14, A_g0_15, A_g0_16, A_r1_1, A_r1_2, A_r1_3, A_g1_4, A_r6_1, A_g6_2, A_a3, A_a4, A_a5, A_a8, A_a9, A_a10, A_a11, A_a12, A_a13, A_a14, A_a15, A_a16, A_a17, A_a18]
theorem k_posOf (Z : OKA Y A h s) {x : Int32} : dN e (d + 1) 27 [.ref a, .int x] (ov TA 19 a A m) = rI (fI (nlS s) fun k => decide (s (3 + k) = x)) (ov TA 19 a A m) := by
  obtain ⟨n, hb, hn0, hn⟩ := Z.nl
  have hl : ∀ k, k < n → A.1 18 k = s (3 + k) := fun k hk => Z.1.2.2.2.2.2 k (by omega)
  refine en27 A_c0 fun t ht => ?_
  obtain ⟨u, rfl⟩ := fu 1 ht rfl
  rw [q27_0]
  rw [hn0]
  refine lp_fI (c := 2) (n := n) (G := fun t k => runL e (dN e d) 27 t 1 [some (.ref a), some (.int (x)), some (.int (Int32.ofNat k))] [] (ov TA 19 a A m)) ?_ ?_ ?_ u (by omega)
  · intro t k hk hp
    have hp : ¬ (s (3 + k) = x) := of_decide_eq_false hp
    simp (disch := omega) only [q27_1, q27_2, q27_3, hb, hl k hk, hk, hp, bd_s, kI_r, kV_r, kL_r, rZ_1, rZ_0, rZ_b, rI_ite, bI_ite, ite_tf, ite_ft, bI0, bI1, bf_ite, nAdd, nMul, nLt, nEq, nEqM, nMEq, nMLt, nLtM, nMLt0, if_true, if_false, Nat.reduceAdd, Nat.reduceMul, Nat.zero_add, Nat.add_zero, decide_eq_true_eq, decide_true, decide_false, Nat.reduceEqDiff, Nat.reduceLT, Nat.reduceLeDiff, eq_self, Bool.false_eq_true, Bool.true_eq_false, Bool.not_eq_false', Bool.not_eq_true', ite_not, A_r0_0, A_r0_1, A_r0_2, A_r0_3, A_r0_4, A_r0_5, A_r0_6, A_r0_7, A_r0_8, A_r0_9, A_r0_10, A_r0_11, A_g0_12, A_g0_13, A_g0_14, A_g0_15, A_g0_16, A_r1_1, A_r1_2, A_r1_3, A_g1_4, A_r6_1, A_g6_2, A_a3, A_a4, A_a5, A_a8, A_a9, A_a10, A_a11, A_a12, A_a13, A_a14, A_a15, A_a16, A_a17, A_a18]
  · intro t k hk hp
    have hp : s (3 + k) = x := of_decide_eq_true hp
    simp (disch := omega) only [q27_1, q27_2, q27_3, hb, hl k hk, hk, hp, bd_s, kI_r, kV_r, kL_r, rZ_1, rZ_0, rZ_b, rI_ite, bI_ite, ite_tf, ite_ft, bI0, bI1, bf_ite, nAdd, nMul, nLt, nEq, nEqM, nMEq, nMLt, nLtM, nMLt0, if_true, if_false, Nat.reduceAdd, Nat.reduceMul, Nat.zero_add, Nat.add_zero, decide_eq_true_eq, decide_true, decide_false, Nat.reduceEqDiff, Nat.reduceLT, Nat.reduceLeDiff, eq_self, Bool.false_eq_true, Bool.true_eq_false, Bool.not_eq_false', Bool.not_eq_true', ite_not, A_r0_0, A_r0_1, A_r0_2, A_r0_3, A_r0_4, A_r0_5, A_r0_6, A_r0_7, A_r0_8, A_r0_9, A_r0_10, A_r0_11, A_g0_12, A_g0_13, A_g0_14, A_g0_15, A_g0_16, A_r1_1, A_r1_2, A_r1_3, A_g1_4, A_r6_1, A_g6_2, A_a3, A_a4, A_a5, A_a8, A_a9, A_a10, A_a11, A_a12, A_a13, A_a14, A_a15, A_a16, A_a17, A_a18]
  · intro t
    simp (disch := omega) only [q27_1, q27_2, q27_3, hb, Nat.lt_irrefl, bd_s, kI_r, kV_r, kL_r, rZ_1, rZ_0, rZ_b, rI_ite, bI_ite, ite_tf, ite_ft, bI0, bI1, bf_ite, nAdd, nMul, nLt, nEq, nEqM, nMEq, nMLt, nLtM, nMLt0, if_true, if_false, Nat.reduceAdd, Nat.reduceMul, Nat.zero_add, Nat.add_zero, decide_eq_true_eq, decide_true, decide_false, Nat.reduceEqDiff, Nat.reduceLT, Nat.reduceLeDiff, eq_self, Bool.false_eq_true, Bool.true_eq_false, Bool.not_eq_false', Bool.not_eq_true', ite_not, A_r0_0, A_r0_1, A_r0_2, A_r0_3, A_r0_4, A_r0_5, A_r0_6, A_r0_7, A_r0_8, A_r0_9, A_r0_10, A_r0_11, A_g0_12, A_g0_13, A_g0_14, A_g0_15, A_g0_16, A_r1_1, A_r1_2, A_r1_3, A_g1_4, A_r6_1, A_g6_2, A_a3, A_a4, A_a5, A_a8, A_a9, A_a10, A_a11, A_a12, A_a13, A_a14, A_a15, A_a16, A_a17, A_a18]
theorem k_wt (Z : OK0 Y A h s) {x : Int32} {k : Nat} (hk : k < nbS s) : dN e (d + 1) 31 [.ref a, .int x, .int (Int32.ofNat k)] (ov TA 19 a A m) = rI (bI (wtB s x k)) (ov TA 19 a A m) := by
  obtain ⟨⟨r0, r1, r2, r4, r3, r5, r6, r8, r9⟩, wb, hk24⟩ := Z.box hk
  obtain ⟨w, w1, w2, -, w4⟩ := wb.2.2.2.2.2.2.1.ex
  rw [w2] at r9
  refine en31 A_c0 fun t ht => ?_
  obtain ⟨u, rfl⟩ := fu 1 ht rfl
  rw [q31_0]
  unfold wtB
  rw [w2]
  refine lp_any (c := 2) (n := w) (G := fun t i => runL e (dN e d) 31 t 1 [some (.ref a), some (.int (x)), some (.int (Int32.ofNat k)), some (.int (Int32.ofNat i))] [] (ov TA 19 a A m)) ?_ ?_ ?_ u (by omega)
  · intro t i hi hp
    have hp : ¬ (bx s k (9 + i) = x) := of_decide_eq_false hp
    simp (disch := omega) only [q31_1, q31_2, q31_3, r8, w1, Nat.mul_comm k 3, r9 i hi, hi, hp, bd_s, kI_r, kV_r, kL_r, rZ_1, rZ_0, rZ_b, rI_ite, bI_ite, ite_tf, ite_ft, bI0, bI1, bf_ite, nAdd, nMul, nLt, nEq, nEqM, nMEq, nMLt, nLtM, nMLt0, if_true, if_false, Nat.reduceAdd, Nat.reduceMul, Nat.zero_add, Nat.add_zero, decide_eq_true_eq, decide_true, decide_false, Nat.reduceEqDiff, Nat.reduceLT, Nat.reduceLeDiff, eq_self, Bool.false_eq_true, Bool.true_eq_false, Bool.not_eq_false', Bool.not_eq_true', ite_not, A_r0_0, A_r0_1, A_r0_2, A_r0_3, A_r0_4, A_r0_5, A_r0_6, A_r0_7, A_r0_8, A_r0_9, A_r0_10, A_r0_11, A_g0_12, A_g0_13, A_g0_14, A_g0_15, A_g0_16, A_r1_1, A_r1_2, A_r1_3, A_g1_4, A_r6_1, A_g6_2, A_a3, A_a4, A_a5, A_a8, A_a9, A_a10, A_a11, A_a12, A_a13, A_a14, A_a15, A_a16, A_a17, A_a18]
  · intro t i hi hp
    have hp : bx s k (9 + i) = x := of_decide_eq_true hp
    simp (disch := omega) only [q31_1, q31_2, q31_3, r8, w1, Nat.mul_comm k 3, r9 i hi, hi, hp, bd_s, kI_r, kV_r, kL_r, rZ_1, rZ_0, rZ_b, rI_ite, bI_ite, ite_tf, ite_ft, bI0, bI1, bf_ite, nAdd, nMul, nLt, nEq, nEqM, nMEq, nMLt, nLtM, nMLt0, if_true, if_false, Nat.reduceAdd, Nat.reduceMul, Nat.zero_add, Nat.add_zero, decide_eq_true_eq, decide_true, decide_false, Nat.reduceEqDiff, Nat.reduceLT, Nat.reduceLeDiff, eq_self, Bool.false_eq_true, Bool.true_eq_false, Bool.not_eq_false', Bool.not_eq_true', ite_not, A_r0_0, A_r0_1, A_r0_2, A_r0_3, A_r0_4, A_r0_5, A_r0_6, A_r0_7, A_r0_8, A_r0_9, A_r0_10, A_r0_11, A_g0_12, A_g0_13, A_g0_14, A_g0_15, A_g0_16, A_r1_1, A_r1_2, A_r1_3, A_g1_4, A_r6_1, A_g6_2, A_a3, A_a4, A_a5, A_a8, A_a9, A_a10, A_a11, A_a12, A_a13, A_a14, A_a15, A_a16, A_a17, A_a18]
  · intro t
    simp (disch := omega) only [q31_1, q31_2, q31_3, r8, w1, Nat.lt_irrefl, bd_s, kI_r, kV_r, kL_r, rZ_1, rZ_0, rZ_b, rI_ite, bI_ite, ite_tf, ite_ft, bI0, bI1, bf_ite, nAdd, nMul, nLt, nEq, nEqM, nMEq, nMLt, nLtM, nMLt0, if_true, if_false, Nat.reduceAdd, Nat.reduceMul, Nat.zero_add, Nat.add_zero, decide_eq_true_eq, decide_true, decide_false, Nat.reduceEqDiff, Nat.reduceLT, Nat.reduceLeDiff, eq_self, Bool.false_eq_true, Bool.true_eq_false, Bool.not_eq_false', Bool.not_eq_true', ite_not, A_r0_0, A_r0_1, A_r0_2, A_r0_3, A_r0_4, A_r0_5, A_r0_6, A_r0_7, A_r0_8, A_r0_9, A_r0_10, A_r0_11, A_g0_12, A_g0_13, A_g0_14, A_g0_15, A_g0_16, A_r1_1, A_r1_2, A_r1_3, A_g1_4, A_r6_1, A_g6_2, A_a3, A_a4, A_a5, A_a8, A_a9, A_a10, A_a11, A_a12, A_a13, A_a14, A_a15, A_a16, A_a17, A_a18]
theorem k_obs (Z : OK0 Y A h s) {x : Int32} {k : Nat} (hk : k < nbS s) : dN e (d + 2) 32 [.ref a, .int x, .int (Int32.ofNat k)] (ov TA 19 a A m) = rI (obsS s h x k) (ov TA 19 a A m) := by
  obtain ⟨⟨r0, r1, r2, r4, r3, r5, r6, r8, r9⟩, wb, hk24⟩ := Z.box hk
  obtain ⟨w, w1, w2, -, w4⟩ := wb.2.2.2.2.2.2.1.ex
  have hw : (if bx s k 8 = Int32.ofNat 3 then Int32.ofNat 5 else Int32.ofNat 0) = (if bx s k 8 < Int32.ofNat 3 then Int32.ofNat 0 else Int32.ofNat 5) := by
    simp only [w1, nEq (show w < 2147483648 by omega) (show 3 < 2147483648 by omega), nLt (show w < 2147483648 by omega) (show 3 < 2147483648 by omega)]
    by_cases h3 : w = 3
    · rw [if_pos h3, if_neg (by omega)]
    · rw [if_neg h3, if_pos (by omega)]
  unfold obsS
  rw [hw]
  refine en32 A_c0 fun t ht => ?_
  obtain ⟨u, rfl⟩ := fu 19 ht rfl
  simp (disch := omega) only [q32_0, q32_1, q32_2, q32_3, q32_4, q32_5, q32_6, q32_7, k_dest Z hk, k_seal Z hk, k_open Z hk, k_wt Z hk, r5, r8, bd_s, kI_r, kV_r, kL_r, rZ_1, rZ_0, rZ_b, rI_ite, bI_ite, ite_tf, ite_ft, bI0, bI1, bf_ite, nAdd, nMul, nLt, nEq, nEqM, nMEq, nMLt, nLtM, nMLt0, if_true, if_false, Nat.reduceAdd, Nat.reduceMul, Nat.zero_add, Nat.add_zero, decide_eq_true_eq, decide_true, decide_false, Nat.reduceEqDiff, Nat.reduceLT, Nat.reduceLeDiff, eq_self, Bool.false_eq_true, Bool.true_eq_false, Bool.not_eq_false', Bool.not_eq_true', ite_not, A_r0_0, A_r0_1, A_r0_2, A_r0_3, A_r0_4, A_r0_5, A_r0_6, A_r0_7, A_r0_8, A_r0_9, A_r0_10, A_r0_11, A_g0_12, A_g0_13, A_g0_14, A_g0_15, A_g0_16, A_r1_1, A_r1_2, A_r1_3, A_g1_4, A_r6_1, A_g6_2, A_a3, A_a4, A_a5, A_a8, A_a9, A_a10, A_a11, A_a12, A_a13, A_a14, A_a15, A_a16, A_a17, A_a18]
end
end

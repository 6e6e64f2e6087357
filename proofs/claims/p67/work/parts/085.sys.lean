/-! ===== the class whole; its changes (printed by wip/whole/api4.py) ===== -/
noncomputable section
/-- where the archives lie: archive, forecast, draft, eight states of the history, two saved ones -/
def oA (i : Nat) : Nat := if i = 0 then 26 else if i = 1 then 45 else if i = 2 then 7 else if i < 11 then 66 + 19 * (i - 3) else 221 + 19 * (i - 11)
theorem oA_dj : ∀ i, i < 13 → ∀ j, j < 13 → i ≠ j → oA i + 19 ≤ oA j ∨ oA j + 19 ≤ oA i := by decide +kernel
theorem oA_b : ∀ i, i < 13 → 7 ≤ oA i ∧ (oA i + 19 ≤ 64 ∨ 66 ≤ oA i) ∧ (oA i + 19 ≤ 218 ∨ 221 ≤ oA i) ∧ oA i + 19 ≤ 259 := by decide +kernel
theorem oA_n {n : Nat} (h : n < 8) : oA (3 + n) = 66 + 19 * n := by
  unfold oA
  rw [if_neg (by omega), if_neg (by omega), if_neg (by omega), if_pos (by omega)]
  omega
theorem oA_s {n : Nat} (h : n < 2) : oA (11 + n) = 221 + 19 * n := by
  unfold oA
  rw [if_neg (by omega), if_neg (by omega), if_neg (by omega), if_neg (by omega)]
  omega
def hSys (x : Nat) (R I H S : bX) (Ar : Nat → bX) (m : dMem) : Prop := hB TR 1 x R m ∧ hB TI 6 (x + 1) I m ∧ hB TH 2 (x + 64) H m ∧ hB TS 3 (x + 218) S m ∧ ∀ i, i < 13 → hB TA 19 (x + oA i) (Ar i) m
def seA (Ar : Nat → bX) (i : Nat) (A : bX) : Nat → bX := fun j => if j = i then A else Ar j
theorem seA_s (Ar : Nat → bX) (i : Nat) (A : bX) : seA Ar i A i = A := if_pos rfl
theorem seA_n {Ar : Nat → bX} {i j : Nat} {A : bX} (h : j ≠ i) : seA Ar i A j = Ar j := if_neg h
section
variable {e : dEnv} {d x Y n c : Nat} {R I H S : bX} {Ar : Nat → bX} {h s : sV} {m : dMem}
theorem sys_A (Z : hSys x R I H S Ar m) {i : Nat} (hi : i < 13) (A : bX) : hSys x R I H S (seA Ar i A) (ov TA 19 (x + oA i) A m) := by
  obtain ⟨z1, z2, z3, z4, z5⟩ := Z
  have b := oA_b i hi
  refine ⟨hB_other z1 (by omega), hB_other z2 (by omega), hB_other z3 (by omega), hB_other z4 (by omega), fun j hj => ?_⟩
  by_cases q : j = i
  · subst q
    rw [seA_s]
    exact hB_ov
  · rw [seA_n q]
    have := oA_dj i hi j hj (fun z => q z.symm)
    exact hB_other (z5 j hj) (by omega)
theorem sys_H (Z : hSys x R I H S Ar m) (H' : bX) : hSys x R I H' S Ar (ov TH 2 (x + 64) H' m) := by
  obtain ⟨z1, z2, z3, z4, z5⟩ := Z
  refine ⟨hB_other z1 (by omega), hB_other z2 (by omega), hB_ov, hB_other z4 (by omega), fun j hj => ?_⟩
  have b := oA_b j hj
  exact hB_other (z5 j hj) (by omega)
theorem sys_S (Z : hSys x R I H S Ar m) (S' : bX) : hSys x R I H S' Ar (ov TS 3 (x + 218) S' m) := by
  obtain ⟨z1, z2, z3, z4, z5⟩ := Z
  refine ⟨hB_other z1 (by omega), hB_other z2 (by omega), hB_other z3 (by omega), hB_ov, fun j hj => ?_⟩
  have b := oA_b j hj
  exact hB_other (z5 j hj) (by omega)
theorem sys_I (Z : hSys x R I H S Ar m) (I' : bX) : hSys x R I' H S Ar (ov TI 6 (x + 1) I' m) := by
  obtain ⟨z1, z2, z3, z4, z5⟩ := Z
  refine ⟨hB_other z1 (by omega), hB_ov, hB_other z3 (by omega), hB_other z4 (by omega), fun j hj => ?_⟩
  have b := oA_b j hj
  exact hB_other (z5 j hj) (by omega)
theorem sys_R (Z : hSys x R I H S Ar m) (R' : bX) : hSys x R' I H S Ar (ov TR 1 x R' m) := by
  obtain ⟨z1, z2, z3, z4, z5⟩ := Z
  refine ⟨hB_ov, hB_other z2 (by omega), hB_other z3 (by omega), hB_other z4 (by omega), fun j hj => ?_⟩
  have b := oA_b j hj
  exact hB_other (z5 j hj) (by omega)
/-- outside nothing changes, and nothing is made -/
def frm (x : Nat) (m m2 : dMem) : Prop := (∀ q, q < x ∨ x + 259 ≤ q → m2.1 q = m.1 q) ∧ m2.2 = m.2
theorem frm.rf : frm x m m := ⟨fun _ _ => rfl, rfl⟩
theorem frm.tr {m1 m2 : dMem} (a : frm x m m1) (b : frm x m1 m2) : frm x m m2 := ⟨fun q hq => (b.1 q hq).trans (a.1 q hq), b.2.trans a.2⟩
theorem frm_A {i : Nat} (hi : i < 13) (A : bX) : frm x m (ov TA 19 (x + oA i) A m) := by
  have b := oA_b i hi
  exact ⟨fun q hq => ov_out (by omega), rfl⟩
theorem frm_H (H' : bX) : frm x m (ov TH 2 (x + 64) H' m) := ⟨fun q hq => ov_out (by omega), rfl⟩
theorem frm_S (S' : bX) : frm x m (ov TS 3 (x + 218) S' m) := ⟨fun q hq => ov_out (by omega), rfl⟩
theorem frm_I (I' : bX) : frm x m (ov TI 6 (x + 1) I' m) := ⟨fun q hq => ov_out (by omega), rfl⟩
theorem frm_R (R' : bX) : frm x m (ov TR 1 x R' m) := ⟨fun q hq => ov_out (by omega), rfl⟩
/-- the history as the class holds it -/
def HisOK (H : bX) (n c : Nat) : Prop := H.1 0 1 = Int32.ofNat n ∧ n < 8 ∧ H.1 0 2 = Int32.ofNat c ∧ c ≤ 8
theorem rem_sys (Z : hSys x R I H S Ar m) (K : HisOK H n c) (he : e.1 ≤ x) : ∃ (m1 : dMem) (B' : bX), dN e (d + 3) 44 [.ref (x + 64), .ref (x + 26)] m = some (.inl none, m1) ∧ hSys x R I (remH H n c) S (seA Ar (3 + n) B') m1 ∧ AEq B' (Ar 0) ∧ frm x m m1 := by
  obtain ⟨k1, k2, k3, k4⟩ := K
  have e3 : x + 64 + (2 + 19 * n) = x + oA (3 + n) := by rw [oA_n k2]; omega
  have zA := Z.2.2.2.2 (3 + n) (by omega)
  have z0 := Z.2.2.2.2 0 (by omega)
  rw [← e3] at zA
  obtain ⟨B', g, q⟩ := y_rem (e := e) (d := d) (a := x + 64) (a2 := x + 26) (m := m) Z.2.2.1 k1 k2 k3 k4 zA z0 (by omega) (by omega)
  refine ⟨_, B', g, ?_, q, ?_⟩
  · rw [e3]
    exact sys_H (sys_A Z (by omega) B') _
  · rw [e3]
    exact frm.tr (frm_A (by omega) B') (frm_H _)
/-- a change: the state before is remembered, the archive's rows are s' -/
def Chg (x : Nat) (R I H S : bX) (Ar : Nat → bX) (n c Y' : Nat) (h s' : sV) (m m2 : dMem) : Prop := ∃ B' A' : bX, hSys x R I (remH H n c) S (seA (seA Ar (3 + n) B') 0 A') m2 ∧ AEq B' (Ar 0) ∧ OKA Y' A' h s' ∧ frm x m m2
theorem chg_of {m1 : dMem} {B' A' : bX} {Y' : Nat} {s' : sV} (Z1 : hSys x R I (remH H n c) S (seA Ar (3 + n) B') m1) (E : AEq B' (Ar 0)) (F : frm x m m1) (K : OKA Y' A' h s') : Chg x R I H S Ar n c Y' h s' m (ov TA 19 (x + 26) A' m1) := ⟨B', A', sys_A Z1 (i := 0) (by omega) A', E, K, frm.tr F (frm_A (i := 0) (by omega) A')⟩
theorem z0_of {m1 : dMem} {B' : bX} (Z1 : hSys x R I (remH H n c) S (seA Ar (3 + n) B') m1) : hB TA 19 (x + 26) (Ar 0) m1 := by
  have := Z1.2.2.2.2 0 (by omega)
  rw [seA_n (by omega)] at this
  exact this
theorem n158_0 {lo hi k : Nat} (h1 : lo ≤ k) (h2 : k ≤ hi) (h3 : hi < 100000) : dN e (d + 1) 158 [.int (Int32.ofNat k), .int (Int32.ofNat lo), .int (Int32.ofNat hi)] m = some (.inl none, m) := by
  have q1 : ¬ k < lo := by omega
  have q2 : ¬ hi < k := by omega
  refine en158 fun t ht => ?_
  obtain ⟨u, rfl⟩ := fu 9 ht rfl
  simp -implicitDefEqProofs (disch := omega) only [↓reduceIte, q158_0, q158_1, q158_2, nLt, q1, q2]
theorem n158_3 {y lo hi : Int32} (hx : rngB lo.toInt hi.toInt y = false) : dN e (d + 1) 158 [.int y, .int lo, .int hi] m = dTh 3 m := by
  refine en158 fun t ht => ?_
  obtain ⟨u, rfl⟩ := fu 9 ht rfl
  by_cases q1 : y < lo
  · simp -implicitDefEqProofs (disch := omega) only [↓reduceIte, q158_0, q158_1, q158_2, q1]
  · have q2 : hi < y := by
      rw [Int32.lt_iff_toInt_lt] at q1 ⊢
      unfold rngB at hx
      rw [decide_eq_true (by omega), Bool.true_and] at hx
      have := of_decide_eq_false hx
      omega
    simp -implicitDefEqProofs (disch := omega) only [↓reduceIte, q158_0, q158_1, q158_2, q1, q2]
theorem b139_0 (Z : hSys x R I H S Ar m) (K : HisOK H n c) (he : e.1 ≤ x) (hl : R.1 0 6 = Int32.ofNat 1) (W : OKA Y (Ar 0) h s) {k : Nat} (h1 : 1 ≤ k) (h2 : k ≤ 50) (hY : Y + 100 ≤ 1000000) : ∃ m2, dN e (d + 8) 139 [.ref x, .int (Int32.ofNat k)] m = rI (Int32.ofNat (lntN (yrsS h k s))) m2 ∧ Chg x R I H S Ar n c (Y + k) h (yrsS h k s) m m2 := by
  have hR := Z.1
  have hA : hB TA 19 (x + 26) (Ar 0) m := Z.2.2.2.2 0 (by omega)
  obtain ⟨m1, B', g1, Z1, E, F⟩ := rem_sys (e := e) (d := d + 4) Z K he
  have hR1 := Z1.1
  have hA1 := z0_of Z1
  obtain ⟨A', g2, Z2⟩ := k_pass (e := e) (a := x + 26) (d := d + 4) (m := m1) (by omega) W (n := k) (by omega) hY
  rw [ov_self hA1] at g2
  have CC := chg_of Z1 E F Z2
  have hR2 : hB TR 1 x R (ov TA 19 (x + 26) A' m1) := hB_other hR1 (by omega)
  have g3 := k_lentN (e := e) (a := x + 26) (d := d + 5) (m := m1) Z2.z
  refine ⟨_, ?_, CC⟩
  refine en139 (hR_c0 hR) fun t ht => ?_
  obtain ⟨u, rfl⟩ := fu 9 ht rfl
  simp -implicitDefEqProofs (disch := omega) only [↓reduceIte, q139_0, n152_0 hR hA hl, g1, g2, n158_0 h1 h2 (by omega), g3, hR_c0 hR2, hR_r0_0 hR2, hR_r0_1 hR2, hR_r0_2 hR2, hR_r0_3 hR2, hR_r0_4 hR2, hR_r0_5 hR2, hR_g0_6 hR2, bd_s, kI_r, kV_r, kL_r, rZ_1, rZ_0, rZ_b, rI_ite, bI_ite, ite_tf, ite_ft, bI0, bI1, bf_ite, nAdd, nMul, nLt, nEq, nEqM, nMEq, nMLt, nLtM, nMLt0, if_true, if_false, Nat.reduceAdd, Nat.reduceMul, Nat.zero_add, Nat.add_zero, decide_eq_true_eq, decide_true, decide_false, Nat.reduceEqDiff, Nat.reduceLT, Nat.reduceLeDiff, eq_self, Bool.false_eq_true, Bool.true_eq_false, Bool.not_eq_false', Bool.not_eq_true', ite_not, hR_c0 hR, hR_r0_0 hR, hR_r0_1 hR, hR_r0_2 hR, hR_r0_3 hR, hR_r0_4 hR, hR_r0_5 hR, hR_g0_6 hR, hR_c0 hR1, hR_r0_0 hR1, hR_r0_1 hR1, hR_r0_2 hR1, hR_r0_3 hR1, hR_r0_4 hR1, hR_r0_5 hR1, hR_g0_6 hR1, hA_c0 hA1, hA_r0_0 hA1, hA_r0_1 hA1, hA_r0_2 hA1, hA_r0_3 hA1, hA_r0_4 hA1, hA_r0_5 hA1, hA_r0_6 hA1, hA_r0_7 hA1, hA_r0_8 hA1, hA_r0_9 hA1, hA_r0_10 hA1, hA_r0_11 hA1, hA_g0_12 hA1, hA_g0_13 hA1, hA_g0_14 hA1, hA_g0_15 hA1, hA_g0_16 hA1, hA_c1 hA1, hA_r1_0 hA1, hA_r1_1 hA1, hA_r1_2 hA1, hA_r1_3 hA1, hA_g1_4 hA1, hA_a2 hA1, hA_n2 hA1, hA_a3 hA1, hA_n3 hA1, hA_a4 hA1, hA_n4 hA1, hA_a5 hA1, hA_n5 hA1, hA_c6 hA1, hA_r6_0 hA1, hA_r6_1 hA1, hA_g6_2 hA1, hA_a7 hA1, hA_n7 hA1, hA_a8 hA1, hA_n8 hA1, hA_a9 hA1, hA_n9 hA1, hA_a10 hA1, hA_n10 hA1, hA_a11 hA1, hA_n11 hA1, hA_a12 hA1, hA_n12 hA1, hA_a13 hA1, hA_n13 hA1, hA_a14 hA1, hA_n14 hA1, hA_a15 hA1, hA_n15 hA1, hA_a16 hA1, hA_n16 hA1, hA_a17 hA1, hA_n17 hA1, hA_a18 hA1, hA_n18 hA1, kV_th, kI_th, Nat.not_lt_zero]
theorem b145_0 (Z : hSys x R I H S Ar m) (K : HisOK H n c) (he : e.1 ≤ x) (hl : R.1 0 6 = Int32.ofNat 1) (W : OKA Y (Ar 0) h s) : ∃ m2, dN e (d + 8) 145 [.ref x] m = rI (listsS s h 2) m2 ∧ Chg x R I H S Ar n c (Y) h (listsS s h) m m2 := by
  have hR := Z.1
  have hA : hB TA 19 (x + 26) (Ar 0) m := Z.2.2.2.2 0 (by omega)
  obtain ⟨m1, B', g1, Z1, E, F⟩ := rem_sys (e := e) (d := d + 4) Z K he
  have hR1 := Z1.1
  have hA1 := z0_of Z1
  obtain ⟨A', g2, Z2⟩ := k_lists (e := e) (a := x + 26) (d := d + 4) (m := m1) (by omega) W
  rw [ov_self hA1] at g2
  have CC := chg_of Z1 E F Z2
  have hR2 : hB TR 1 x R (ov TA 19 (x + 26) A' m1) := hB_other hR1 (by omega)
  have f12 : A'.1 0 12 = listsS s h 2 := Z2.1.1
  refine ⟨_, ?_, CC⟩
  refine en145 (hR_c0 hR) fun t ht => ?_
  obtain ⟨u, rfl⟩ := fu 9 ht rfl
  simp -implicitDefEqProofs (disch := omega) only [↓reduceIte, q145_0, n152_0 hR hA hl, g1, g2, f12, A_g0_12, hR_c0 hR2, hR_r0_0 hR2, hR_r0_1 hR2, hR_r0_2 hR2, hR_r0_3 hR2, hR_r0_4 hR2, hR_r0_5 hR2, hR_g0_6 hR2, bd_s, kI_r, kV_r, kL_r, rZ_1, rZ_0, rZ_b, rI_ite, bI_ite, ite_tf, ite_ft, bI0, bI1, bf_ite, nAdd, nMul, nLt, nEq, nEqM, nMEq, nMLt, nLtM, nMLt0, if_true, if_false, Nat.reduceAdd, Nat.reduceMul, Nat.zero_add, Nat.add_zero, decide_eq_true_eq, decide_true, decide_false, Nat.reduceEqDiff, Nat.reduceLT, Nat.reduceLeDiff, eq_self, Bool.false_eq_true, Bool.true_eq_false, Bool.not_eq_false', Bool.not_eq_true', ite_not, hR_c0 hR, hR_r0_0 hR, hR_r0_1 hR, hR_r0_2 hR, hR_r0_3 hR, hR_r0_4 hR, hR_r0_5 hR, hR_g0_6 hR, hR_c0 hR1, hR_r0_0 hR1, hR_r0_1 hR1, hR_r0_2 hR1, hR_r0_3 hR1, hR_r0_4 hR1, hR_r0_5 hR1, hR_g0_6 hR1, hA_c0 hA1, hA_r0_0 hA1, hA_r0_1 hA1, hA_r0_2 hA1, hA_r0_3 hA1, hA_r0_4 hA1, hA_r0_5 hA1, hA_r0_6 hA1, hA_r0_7 hA1, hA_r0_8 hA1, hA_r0_9 hA1, hA_r0_10 hA1, hA_r0_11 hA1, hA_g0_12 hA1, hA_g0_13 hA1, hA_g0_14 hA1, hA_g0_15 hA1, hA_g0_16 hA1, hA_c1 hA1, hA_r1_0 hA1, hA_r1_1 hA1, hA_r1_2 hA1, hA_r1_3 hA1, hA_g1_4 hA1, hA_a2 hA1, hA_n2 hA1, hA_a3 hA1, hA_n3 hA1, hA_a4 hA1, hA_n4 hA1, hA_a5 hA1, hA_n5 hA1, hA_c6 hA1, hA_r6_0 hA1, hA_r6_1 hA1, hA_g6_2 hA1, hA_a7 hA1, hA_n7 hA1, hA_a8 hA1, hA_n8 hA1, hA_a9 hA1, hA_n9 hA1, hA_a10 hA1, hA_n10 hA1, hA_a11 hA1, hA_n11 hA1, hA_a12 hA1, hA_n12 hA1, hA_a13 hA1, hA_n13 hA1, hA_a14 hA1, hA_n14 hA1, hA_a15 hA1, hA_n15 hA1, hA_a16 hA1, hA_n16 hA1, hA_a17 hA1, hA_n17 hA1, hA_a18 hA1, hA_n18 hA1, kV_th, kI_th, Nat.not_lt_zero]
theorem b147_0 (Z : hSys x R I H S Ar m) (K : HisOK H n c) (he : e.1 ≤ x) (hl : R.1 0 6 = Int32.ofNat 1) (W : OKA Y (Ar 0) h s) : ∃ m2, dN e (d + 8) 147 [.ref x] m = rI (Int32.ofNat (aprN s h)) m2 ∧ Chg x R I H S Ar n c Y h (aprS s h) m m2 := by
  have hR := Z.1
  have hA : hB TA 19 (x + 26) (Ar 0) m := Z.2.2.2.2 0 (by omega)
  obtain ⟨m1, B', g1, Z1, E, F⟩ := rem_sys (e := e) (d := d + 4) Z K he
  have hR1 := Z1.1
  have hA1 := z0_of Z1
  obtain ⟨A', g2, Z2⟩ := k_apr (e := e) (a := x + 26) (d := d + 4) (m := m1) (by omega) W
  rw [ov_self hA1] at g2
  refine ⟨_, ?_, chg_of Z1 E F Z2⟩
  refine en147 (hR_c0 hR) fun t ht => ?_
  obtain ⟨u, rfl⟩ := fu 9 ht rfl
  simp -implicitDefEqProofs (disch := omega) only [↓reduceIte, q147_0, n152_0 hR hA hl, g1, g2, bd_s, kI_r, kV_r, kL_r, rZ_1, rZ_0, rZ_b, rI_ite, bI_ite, ite_tf, ite_ft, bI0, bI1, bf_ite, nAdd, nMul, nLt, nEq, nEqM, nMEq, nMLt, nLtM, nMLt0, if_true, if_false, Nat.reduceAdd, Nat.reduceMul, Nat.zero_add, Nat.add_zero, decide_eq_true_eq, decide_true, decide_false, Nat.reduceEqDiff, Nat.reduceLT, Nat.reduceLeDiff, eq_self, Bool.false_eq_true, Bool.true_eq_false, Bool.not_eq_false', Bool.not_eq_true', ite_not, hR_c0 hR, hR_r0_0 hR, hR_r0_1 hR, hR_r0_2 hR, hR_r0_3 hR, hR_r0_4 hR, hR_r0_5 hR, hR_g0_6 hR, hR_c0 hR1, hR_r0_0 hR1, hR_r0_1 hR1, hR_r0_2 hR1, hR_r0_3 hR1, hR_r0_4 hR1, hR_r0_5 hR1, hR_g0_6 hR1, hA_c0 hA1, hA_r0_0 hA1, hA_r0_1 hA1, hA_r0_2 hA1, hA_r0_3 hA1, hA_r0_4 hA1, hA_r0_5 hA1, hA_r0_6 hA1, hA_r0_7 hA1, hA_r0_8 hA1, hA_r0_9 hA1, hA_r0_10 hA1, hA_r0_11 hA1, hA_g0_12 hA1, hA_g0_13 hA1, hA_g0_14 hA1, hA_g0_15 hA1, hA_g0_16 hA1, hA_c1 hA1, hA_r1_0 hA1, hA_r1_1 hA1, hA_r1_2 hA1, hA_r1_3 hA1, hA_g1_4 hA1, hA_a2 hA1, hA_n2 hA1, hA_a3 hA1, hA_n3 hA1, hA_a4 hA1, hA_n4 hA1, hA_a5 hA1, hA_n5 hA1, hA_c6 hA1, hA_r6_0 hA1, hA_r6_1 hA1, hA_g6_2 hA1, hA_a7 hA1, hA_n7 hA1, hA_a8 hA1, hA_n8 hA1, hA_a9 hA1, hA_n9 hA1, hA_a10 hA1, hA_n10 hA1, hA_a11 hA1, hA_n11 hA1, hA_a12 hA1, hA_n12 hA1, hA_a13 hA1, hA_n13 hA1, hA_a14 hA1, hA_n14 hA1, hA_a15 hA1, hA_n15 hA1, hA_a16 hA1, hA_n16 hA1, hA_a17 hA1, hA_n17 hA1, hA_a18 hA1, hA_n18 hA1, kV_th, kI_th, Nat.not_lt_zero]
end
end

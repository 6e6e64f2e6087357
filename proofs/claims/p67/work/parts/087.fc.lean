/-! ===== the class's forecasts (printed by wip/whole/api6.py) ===== -/
noncomputable section
section
variable {e : dEnv} {d x Y n c : Nat} {R I H S : bX} {Ar : Nat → bX} {h s : sV} {m : dMem}
theorem fc_sys (Z : hSys x R I H S Ar m) (he : e.1 ≤ x) : ∃ B', dN e (d + 2) 2 [.ref (x + 45), .ref (x + 26)] m = some (.inl none, ov TA 19 (x + 45) B' m) ∧ AEq B' (Ar 0) :=
  k_copyM (a := x + 45) (a2 := x + 26) (Z.2.2.2.2 1 (by omega)) (Z.2.2.2.2 0 (by omega)) (by omega) (by omega)
/-- only the forecast's block is changed -/
theorem fc_hS (Z : hSys x R I H S Ar m) (F : bX) : hSys x R I H S (seA Ar 1 F) (ov TA 19 (x + 45) F m) ∧ frm x m (ov TA 19 (x + 45) F m) := ⟨sys_A Z (i := 1) (by omega) F, frm_A (i := 1) (by omega) F⟩
theorem b130_0 (Z : hSys x R I H S Ar m) (he : e.1 ≤ x) (hl : R.1 0 6 = Int32.ofNat 1) (W : OKA Y (Ar 0) h s) {k : Nat} (hk : k ≤ 100) (hY : Y + 300 ≤ 1000000) : ∃ F', dN e (d + 8) 130 [.ref x, .int (Int32.ofNat k)] m = rI (Int32.ofNat (freS (clyS h k s) h)) (ov TA 19 (x + 45) F' m) := by
  have hR := Z.1
  have hA : hB TA 19 (x + 26) (Ar 0) m := Z.2.2.2.2 0 (by omega)
  obtain ⟨B', g1, E⟩ := fc_sys (e := e) (d := d + 5) Z he
  have W1 := OKA_eq E W
  have hRa : ∀ F : bX, hB TR 1 x R (ov TA 19 (x + 45) F m) := fun F => hB_other hR (by omega)
  have hR1 := hRa B'
  obtain ⟨F', -, hF⟩ := lp_ex (c := 2) (n := k) (G := fun t i A => runL e (dN e (d + 7)) 130 t 1 [some (.ref x), some (.int (Int32.ofNat k)), some (.int (Int32.ofNat i))] [] (ov TA 19 (x + 45) A m)) (P := fun i A => OKA (Y + i) A h (clyS h i s)) (r := fun A => rI (Int32.ofNat (freS (clyS h k s) h)) (ov TA 19 (x + 45) A m)) (fun i A hi hP => by
    obtain ⟨A', g, Z'⟩ := k_clear (e := e) (a := x + 45) (d := d + 3) (m := m) (by omega) (by omega) hP
    have hR2 := hRa A
    refine ⟨A', Z', fun t => ⟨t + 1, by omega, ?_⟩⟩
    show runL e (dN e (d + 7)) 130 (t + 1 + 1) 1 [some (.ref x), some (.int (Int32.ofNat k)), some (.int (Int32.ofNat i))] [] (ov TA 19 (x + 45) A m) = runL e (dN e (d + 7)) 130 (t + 1) 1 [some (.ref x), some (.int (Int32.ofNat k)), some (.int (Int32.ofNat (i + 1)))] [] (ov TA 19 (x + 45) A' m)
    generalize t + 1 = t2
    rw [q130_1]; (try simp -implicitDefEqProofs (disch := omega) only [↓reduceIte, hi, g, hR_c0 hR2, hR_r0_0 hR2, hR_r0_1 hR2, hR_r0_2 hR2, hR_r0_3 hR2, hR_r0_4 hR2, hR_r0_5 hR2, hR_g0_6 hR2, bd_s, kI_r, kV_r, kL_r, rZ_1, rZ_0, rZ_b, rI_ite, bI_ite, ite_tf, ite_ft, bI0, bI1, bf_ite, nAdd, nMul, nLt, nEq, nEqM, nMEq, nMLt, nLtM, nMLt0, if_true, if_false, Nat.reduceAdd, Nat.reduceMul, Nat.zero_add, Nat.add_zero, decide_eq_true_eq, decide_true, decide_false, Nat.reduceEqDiff, Nat.reduceLT, Nat.reduceLeDiff, eq_self, Bool.false_eq_true, Bool.true_eq_false, Bool.not_eq_false', Bool.not_eq_true', ite_not, hR_c0 hR, hR_r0_0 hR, hR_r0_1 hR, hR_r0_2 hR, hR_r0_3 hR, hR_r0_4 hR, hR_r0_5 hR, hR_g0_6 hR, kV_th, kI_th, Nat.not_lt_zero])) (fun t A hP => by
    have g := k_free (e := e) (a := x + 45) (d := d + 5) (m := m) hP.z
    have hR2 := hRa A
    show runL e (dN e (d + 7)) 130 (t + 1 + 1) 1 [some (.ref x), some (.int (Int32.ofNat k)), some (.int (Int32.ofNat k))] [] (ov TA 19 (x + 45) A m) = rI (Int32.ofNat (freS (clyS h k s) h)) (ov TA 19 (x + 45) A m)
    rw [q130_1]; (try simp -implicitDefEqProofs (disch := omega) only [↓reduceIte, Nat.lt_irrefl, g, hR_c0 hR2, hR_r0_0 hR2, hR_r0_1 hR2, hR_r0_2 hR2, hR_r0_3 hR2, hR_r0_4 hR2, hR_r0_5 hR2, hR_g0_6 hR2, bd_s, kI_r, kV_r, kL_r, rZ_1, rZ_0, rZ_b, rI_ite, bI_ite, ite_tf, ite_ft, bI0, bI1, bf_ite, nAdd, nMul, nLt, nEq, nEqM, nMEq, nMLt, nLtM, nMLt0, if_true, if_false, Nat.reduceAdd, Nat.reduceMul, Nat.zero_add, Nat.add_zero, decide_eq_true_eq, decide_true, decide_false, Nat.reduceEqDiff, Nat.reduceLT, Nat.reduceLeDiff, eq_self, Bool.false_eq_true, Bool.true_eq_false, Bool.not_eq_false', Bool.not_eq_true', ite_not, hR_c0 hR, hR_r0_0 hR, hR_r0_1 hR, hR_r0_2 hR, hR_r0_3 hR, hR_r0_4 hR, hR_r0_5 hR, hR_g0_6 hR, kV_th, kI_th, Nat.not_lt_zero]); rw [q130_2]; (try simp -implicitDefEqProofs (disch := omega) only [↓reduceIte, Nat.lt_irrefl, g, hR_c0 hR2, hR_r0_0 hR2, hR_r0_1 hR2, hR_r0_2 hR2, hR_r0_3 hR2, hR_r0_4 hR2, hR_r0_5 hR2, hR_g0_6 hR2, bd_s, kI_r, kV_r, kL_r, rZ_1, rZ_0, rZ_b, rI_ite, bI_ite, ite_tf, ite_ft, bI0, bI1, bf_ite, nAdd, nMul, nLt, nEq, nEqM, nMEq, nMLt, nLtM, nMLt0, if_true, if_false, Nat.reduceAdd, Nat.reduceMul, Nat.zero_add, Nat.add_zero, decide_eq_true_eq, decide_true, decide_false, Nat.reduceEqDiff, Nat.reduceLT, Nat.reduceLeDiff, eq_self, Bool.false_eq_true, Bool.true_eq_false, Bool.not_eq_false', Bool.not_eq_true', ite_not, hR_c0 hR, hR_r0_0 hR, hR_r0_1 hR, hR_r0_2 hR, hR_r0_3 hR, hR_r0_4 hR, hR_r0_5 hR, hR_g0_6 hR, kV_th, kI_th, Nat.not_lt_zero])) B' W1
  refine ⟨F', en130 (hR_c0 hR) fun t ht => ?_⟩
  obtain ⟨u, rfl⟩ := fu 1 ht rfl
  rw [← hF u (by omega)]
  rw [q130_0]; (try simp -implicitDefEqProofs (disch := omega) only [↓reduceIte, n152_0 hR hA hl, n158_0 (show 0 ≤ k by omega) hk (by omega), g1, hR_c0 hR1, hR_r0_0 hR1, hR_r0_1 hR1, hR_r0_2 hR1, hR_r0_3 hR1, hR_r0_4 hR1, hR_r0_5 hR1, hR_g0_6 hR1, bd_s, kI_r, kV_r, kL_r, rZ_1, rZ_0, rZ_b, rI_ite, bI_ite, ite_tf, ite_ft, bI0, bI1, bf_ite, nAdd, nMul, nLt, nEq, nEqM, nMEq, nMLt, nLtM, nMLt0, if_true, if_false, Nat.reduceAdd, Nat.reduceMul, Nat.zero_add, Nat.add_zero, decide_eq_true_eq, decide_true, decide_false, Nat.reduceEqDiff, Nat.reduceLT, Nat.reduceLeDiff, eq_self, Bool.false_eq_true, Bool.true_eq_false, Bool.not_eq_false', Bool.not_eq_true', ite_not, hR_c0 hR, hR_r0_0 hR, hR_r0_1 hR, hR_r0_2 hR, hR_r0_3 hR, hR_r0_4 hR, hR_r0_5 hR, hR_g0_6 hR, kV_th, kI_th, Nat.not_lt_zero])
theorem b131_s (Z : hSys x R I H S Ar m) (he : e.1 ≤ x) (hl : R.1 0 6 = Int32.ofNat 1) (W : OKA Y (Ar 0) h s) {k j : Nat} (hk : 1 ≤ k) (hk2 : k ≤ 48) (hY : Y + 300 ≤ 1000000) (hf : yuS h s (Int32.ofNat k) = some j) : ∃ F', dN e (d + 8) 131 [.ref x, .int (Int32.ofNat k)] m = rI (Int32.ofNat j) (ov TA 19 (x + 45) F' m) := by
  have hR := Z.1
  have hA : hB TA 19 (x + 26) (Ar 0) m := Z.2.2.2.2 0 (by omega)
  obtain ⟨B', g1, E⟩ := fc_sys (e := e) (d := d + 5) Z he
  have W1 := OKA_eq E W
  have hRa : ∀ F : bX, hB TR 1 x R (ov TA 19 (x + 45) F m) := fun F => hB_other hR (by omega)
  have hR1 := hRa B'
  unfold yuS at hf
  obtain ⟨f1, f2, f3⟩ := fnd_some hf
  have hno : ∀ i, i < j → Int32.ofNat (freS (clyS h i s) h) < Int32.ofNat k := fun i hi => by
    have := f3 i hi
    rw [Bool.not_eq_false'] at this
    exact of_decide_eq_true this
  have hyes : ¬ Int32.ofNat (freS (clyS h j s) h) < Int32.ofNat k := by
    rw [Bool.not_eq_true'] at f2
    exact of_decide_eq_false f2
  obtain ⟨F', -, hF⟩ := lp_ex (c := 2) (n := j) (G := fun t i A => runL e (dN e (d + 7)) 131 t 1 [some (.ref x), some (.int (Int32.ofNat k)), some (.int (Int32.ofNat i))] [] (ov TA 19 (x + 45) A m)) (P := fun i A => OKA (Y + i) A h (clyS h i s)) (r := fun A => rI (Int32.ofNat j) (ov TA 19 (x + 45) A m)) (fun i A hi hP => by
    obtain ⟨A', g, Z'⟩ := k_clear (e := e) (a := x + 45) (d := d + 3) (m := m) (by omega) (by omega) hP
    have g2 := k_free (e := e) (a := x + 45) (d := d + 5) (m := m) hP.z
    have hR2 := hRa A
    have hi2 : ¬ 100 < i := by omega
    have hp : Int32.ofNat (freS (clyS h i s) h) < Int32.ofNat k := hno i hi
    refine ⟨A', Z', fun t => ⟨t, by omega, ?_⟩⟩
    show runL e (dN e (d + 7)) 131 (t + 1 + 1) 1 [some (.ref x), some (.int (Int32.ofNat k)), some (.int (Int32.ofNat i))] [] (ov TA 19 (x + 45) A m) = runL e (dN e (d + 7)) 131 t 1 [some (.ref x), some (.int (Int32.ofNat k)), some (.int (Int32.ofNat (i + 1)))] [] (ov TA 19 (x + 45) A' m)
    rw [q131_1]
    simp -implicitDefEqProofs (disch := omega) only [nLt, hi2, if_false, hR_r0_2 hR2, bd_s, g2, kI_r]
    rw [if_pos hp, q131_2]
    simp -implicitDefEqProofs (disch := omega) only [↓reduceIte, g, hR_c0 hR2, hR_r0_0 hR2, hR_r0_1 hR2, hR_r0_2 hR2, hR_r0_3 hR2, hR_r0_4 hR2, hR_r0_5 hR2, hR_g0_6 hR2, bd_s, kI_r, kV_r, kL_r, rZ_1, rZ_0, rZ_b, rI_ite, bI_ite, ite_tf, ite_ft, bI0, bI1, bf_ite, nAdd, nMul, nLt, nEq, nEqM, nMEq, nMLt, nLtM, nMLt0, if_true, if_false, Nat.reduceAdd, Nat.reduceMul, Nat.zero_add, Nat.add_zero, decide_eq_true_eq, decide_true, decide_false, Nat.reduceEqDiff, Nat.reduceLT, Nat.reduceLeDiff, eq_self, Bool.false_eq_true, Bool.true_eq_false, Bool.not_eq_false', Bool.not_eq_true', ite_not, hR_c0 hR, hR_r0_0 hR, hR_r0_1 hR, hR_r0_2 hR, hR_r0_3 hR, hR_r0_4 hR, hR_r0_5 hR, hR_g0_6 hR, kV_th, kI_th, Nat.not_lt_zero]) (fun t A hP => by
    have g2 := k_free (e := e) (a := x + 45) (d := d + 5) (m := m) hP.z
    have hR2 := hRa A
    show runL e (dN e (d + 7)) 131 (t + 1 + 1) 1 [some (.ref x), some (.int (Int32.ofNat k)), some (.int (Int32.ofNat j))] [] (ov TA 19 (x + 45) A m) = rI (Int32.ofNat j) (ov TA 19 (x + 45) A m)
    rw [q131_1]
    have hj2 : ¬ 100 < j := by omega
    simp -implicitDefEqProofs (disch := omega) only [nLt, hj2, if_false, hR_r0_2 hR2, bd_s, g2, kI_r]
    rw [if_neg hyes]) B' W1
  refine ⟨F', en131 (hR_c0 hR) fun t ht => ?_⟩
  obtain ⟨u, rfl⟩ := fu 1 ht rfl
  rw [← hF u (by omega)]
  rw [q131_0]; (try simp -implicitDefEqProofs (disch := omega) only [↓reduceIte, n152_0 hR hA hl, n158_0 hk hk2 (by omega), g1, hR_c0 hR1, hR_r0_0 hR1, hR_r0_1 hR1, hR_r0_2 hR1, hR_r0_3 hR1, hR_r0_4 hR1, hR_r0_5 hR1, hR_g0_6 hR1, bd_s, kI_r, kV_r, kL_r, rZ_1, rZ_0, rZ_b, rI_ite, bI_ite, ite_tf, ite_ft, bI0, bI1, bf_ite, nAdd, nMul, nLt, nEq, nEqM, nMEq, nMLt, nLtM, nMLt0, if_true, if_false, Nat.reduceAdd, Nat.reduceMul, Nat.zero_add, Nat.add_zero, decide_eq_true_eq, decide_true, decide_false, Nat.reduceEqDiff, Nat.reduceLT, Nat.reduceLeDiff, eq_self, Bool.false_eq_true, Bool.true_eq_false, Bool.not_eq_false', Bool.not_eq_true', ite_not, hR_c0 hR, hR_r0_0 hR, hR_r0_1 hR, hR_r0_2 hR, hR_r0_3 hR, hR_r0_4 hR, hR_r0_5 hR, hR_g0_6 hR, kV_th, kI_th, Nat.not_lt_zero])
theorem b131_n (Z : hSys x R I H S Ar m) (he : e.1 ≤ x) (hl : R.1 0 6 = Int32.ofNat 1) (W : OKA Y (Ar 0) h s) {k : Nat} (hk : 1 ≤ k) (hk2 : k ≤ 48) (hY : Y + 300 ≤ 1000000) (hf : yuS h s (Int32.ofNat k) = none) : ∃ F', dN e (d + 8) 131 [.ref x, .int (Int32.ofNat k)] m = rI (nM1) (ov TA 19 (x + 45) F' m) := by
  have hR := Z.1
  have hA : hB TA 19 (x + 26) (Ar 0) m := Z.2.2.2.2 0 (by omega)
  obtain ⟨B', g1, E⟩ := fc_sys (e := e) (d := d + 5) Z he
  have W1 := OKA_eq E W
  have hRa : ∀ F : bX, hB TR 1 x R (ov TA 19 (x + 45) F m) := fun F => hB_other hR (by omega)
  have hR1 := hRa B'
  unfold yuS at hf
  have f3 := fnd_none hf
  have hno : ∀ i, i < 101 → Int32.ofNat (freS (clyS h i s) h) < Int32.ofNat k := fun i hi => by
    have := f3 i hi
    rw [Bool.not_eq_false'] at this
    exact of_decide_eq_true this
  obtain ⟨F', -, hF⟩ := lp_ex (c := 2) (n := 101) (G := fun t i A => runL e (dN e (d + 7)) 131 t 1 [some (.ref x), some (.int (Int32.ofNat k)), some (.int (Int32.ofNat i))] [] (ov TA 19 (x + 45) A m)) (P := fun i A => OKA (Y + i) A h (clyS h i s)) (r := fun A => rI (nM1) (ov TA 19 (x + 45) A m)) (fun i A hi hP => by
    obtain ⟨A', g, Z'⟩ := k_clear (e := e) (a := x + 45) (d := d + 3) (m := m) (by omega) (by omega) hP
    have g2 := k_free (e := e) (a := x + 45) (d := d + 5) (m := m) hP.z
    have hR2 := hRa A
    have hi2 : ¬ 100 < i := by omega
    have hp : Int32.ofNat (freS (clyS h i s) h) < Int32.ofNat k := hno i hi
    refine ⟨A', Z', fun t => ⟨t, by omega, ?_⟩⟩
    show runL e (dN e (d + 7)) 131 (t + 1 + 1) 1 [some (.ref x), some (.int (Int32.ofNat k)), some (.int (Int32.ofNat i))] [] (ov TA 19 (x + 45) A m) = runL e (dN e (d + 7)) 131 t 1 [some (.ref x), some (.int (Int32.ofNat k)), some (.int (Int32.ofNat (i + 1)))] [] (ov TA 19 (x + 45) A' m)
    rw [q131_1]
    simp -implicitDefEqProofs (disch := omega) only [nLt, hi2, if_false, hR_r0_2 hR2, bd_s, g2, kI_r]
    rw [if_pos hp, q131_2]
    simp -implicitDefEqProofs (disch := omega) only [↓reduceIte, g, hR_c0 hR2, hR_r0_0 hR2, hR_r0_1 hR2, hR_r0_2 hR2, hR_r0_3 hR2, hR_r0_4 hR2, hR_r0_5 hR2, hR_g0_6 hR2, bd_s, kI_r, kV_r, kL_r, rZ_1, rZ_0, rZ_b, rI_ite, bI_ite, ite_tf, ite_ft, bI0, bI1, bf_ite, nAdd, nMul, nLt, nEq, nEqM, nMEq, nMLt, nLtM, nMLt0, if_true, if_false, Nat.reduceAdd, Nat.reduceMul, Nat.zero_add, Nat.add_zero, decide_eq_true_eq, decide_true, decide_false, Nat.reduceEqDiff, Nat.reduceLT, Nat.reduceLeDiff, eq_self, Bool.false_eq_true, Bool.true_eq_false, Bool.not_eq_false', Bool.not_eq_true', ite_not, hR_c0 hR, hR_r0_0 hR, hR_r0_1 hR, hR_r0_2 hR, hR_r0_3 hR, hR_r0_4 hR, hR_r0_5 hR, hR_g0_6 hR, kV_th, kI_th, Nat.not_lt_zero]) (fun t A hP => by
    have g2 := k_free (e := e) (a := x + 45) (d := d + 5) (m := m) hP.z
    have hR2 := hRa A
    show runL e (dN e (d + 7)) 131 (t + 1 + 1) 1 [some (.ref x), some (.int (Int32.ofNat k)), some (.int (Int32.ofNat 101))] [] (ov TA 19 (x + 45) A m) = rI (nM1) (ov TA 19 (x + 45) A m)
    rw [q131_1]
    have hj2 : 100 < 101 := by omega
    simp -implicitDefEqProofs (disch := omega) only [nLt, hj2, if_true]
    rw [q131_3]) B' W1
  refine ⟨F', en131 (hR_c0 hR) fun t ht => ?_⟩
  obtain ⟨u, rfl⟩ := fu 1 ht rfl
  rw [← hF u (by omega)]
  rw [q131_0]; (try simp -implicitDefEqProofs (disch := omega) only [↓reduceIte, n152_0 hR hA hl, n158_0 hk hk2 (by omega), g1, hR_c0 hR1, hR_r0_0 hR1, hR_r0_1 hR1, hR_r0_2 hR1, hR_r0_3 hR1, hR_r0_4 hR1, hR_r0_5 hR1, hR_g0_6 hR1, bd_s, kI_r, kV_r, kL_r, rZ_1, rZ_0, rZ_b, rI_ite, bI_ite, ite_tf, ite_ft, bI0, bI1, bf_ite, nAdd, nMul, nLt, nEq, nEqM, nMEq, nMLt, nLtM, nMLt0, if_true, if_false, Nat.reduceAdd, Nat.reduceMul, Nat.zero_add, Nat.add_zero, decide_eq_true_eq, decide_true, decide_false, Nat.reduceEqDiff, Nat.reduceLT, Nat.reduceLeDiff, eq_self, Bool.false_eq_true, Bool.true_eq_false, Bool.not_eq_false', Bool.not_eq_true', ite_not, hR_c0 hR, hR_r0_0 hR, hR_r0_1 hR, hR_r0_2 hR, hR_r0_3 hR, hR_r0_4 hR, hR_r0_5 hR, hR_g0_6 hR, kV_th, kI_th, Nat.not_lt_zero])
end
end

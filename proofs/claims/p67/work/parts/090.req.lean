/-! ===== the class's request, new box (printed by wip/whole/api9.py) ===== -/
noncomputable section
theorem obs_0 {s h : sV} {r : Int32} {k : Nat} (ho : obsS s h r k = Int32.ofNat 0) : ¬ bx s k 5 = r ∧ ¬ bx s k 8 = Int32.ofNat 3 := by
  unfold obsS at ho
  by_cases a1 : gonB s k = true
  · rw [if_pos a1] at ho
    exact absurd ho (by decide +kernel)
  rw [if_neg a1] at ho
  by_cases a2 : selB s k = true
  · rw [if_pos a2] at ho
    exact absurd ho (by decide +kernel)
  rw [if_neg a2] at ho
  by_cases a3 : bx s k 1 + h (102 + clN s k) < s 0
  · rw [if_pos a3] at ho
    by_cases a4 : bx s k 5 = r
    · rw [if_pos a4] at ho
      exact absurd ho (by decide +kernel)
    rw [if_neg a4] at ho
    refine ⟨a4, fun a5 => ?_⟩
    rw [if_pos a5] at ho
    by_cases a6 : wtB s r k = true
    · rw [if_pos a6] at ho
      exact absurd ho (by decide +kernel)
    · rw [if_neg a6] at ho
      exact absurd ho (by decide +kernel)
  · rw [if_neg a3] at ho
    exact absurd ho (by decide +kernel)
theorem req_lo {s h : sV} {r : Int32} {k j : Nat} (hj : j < 27) : reqS s h r k j = s j := by
  unfold reqS
  cases reqB s h r k with
  | true => show lay (lay s k 5 r) k 6 (s 0) j = _; rw [lay_lo hj, lay_lo hj]
  | false => show lay (lay s k (9 + nN (bx s k 8)) r) k 8 _ j = _; rw [lay_lo hj, lay_lo hj]
theorem req_5 {s h : sV} {r : Int32} {k : Nat} (h8 : nN (bx s k 8) < 3) (h5 : ¬ bx s k 5 = r) : (bx (reqS s h r k) k 5 = r) = (reqB s h r k = true) := by
  unfold reqS
  cases hq : reqB s h r k with
  | true =>
    have : bx (lndS s k r) k 5 = r := by
      unfold lndS
      rw [lay_n (by omega) (by omega) (by omega), lay_s (by omega)]
    exact eq_true (this) ▸ (eq_true rfl).symm
  | false =>
    have : bx (queS s r k) k 5 = bx s k 5 := by
      unfold queS
      rw [lay_n (by omega) (by omega) (by omega), lay_n (by omega) (by omega) (by omega)]
    show (bx (queS s r k) k 5 = r) = _
    rw [this]
    exact propext ⟨fun q => absurd q h5, fun q => absurd q Bool.false_ne_true⟩
section
variable {e : dEnv} {d x Y n c : Nat} {R I H S : bX} {Ar : Nat → bX} {h s : sV} {m : dMem}
theorem b143_0 (Z : hSys x R I H S Ar m) (K : HisOK H n c) (he : e.1 ≤ x) (hl : R.1 0 6 = Int32.ofNat 1) (W : OKA Y (Ar 0) h s) {k N : Nat} (hn : s 1 = Int32.ofNat N) (hm : N ≤ 24) (hk : k < N) {j r : Nat} (hr : h 3 = Int32.ofNat r) (hr6 : r ≤ 6) (hj : j < r) (ho : obsS s h (Int32.ofNat j) k = Int32.ofNat 0) : ∃ m2, dN e (d + 8) 143 [.ref x, .int (Int32.ofNat j), .int (Int32.ofNat k)] m = rI (bI (reqB s h (Int32.ofNat j) k)) m2 ∧ Chg x R I H S Ar n c Y h (reqS s h (Int32.ofNat j) k) m m2 := by
  have hR := Z.1
  have hA : hB TA 19 (x + 26) (Ar 0) m := Z.2.2.2.2 0 (by omega)
  obtain ⟨m1, B', g1, Z1, E, F⟩ := rem_sys (e := e) (d := d + 4) Z K he
  have hR1 := Z1.1
  have hA1 := z0_of Z1
  have hk2 : k < nbS s := by unfold nbS; rw [hn, nN_o (by omega)]; exact hk
  have q1 := k_obs (e := e) (a := x + 26) (d := d + 5) (m := m) W.z (x := Int32.ofNat j) hk2
  rw [ov_self hA, ho] at q1
  obtain ⟨f5, f8⟩ := obs_0 ho
  have h8 : nN (bx s k 8) < 3 := by
    have w := (W.2.1.2.2.2.1 k hk2).2.2.2.2.2.2.1
    obtain ⟨v, v1, v2, -, v4⟩ := w.ex
    rcases Nat.lt_or_ge v 3 with z | z
    · omega
    · have : v = 3 := by omega
      subst this
      exact absurd v1 f8
  obtain ⟨A', g2, Z2⟩ := k_req (e := e) (a := x + 26) (d := d + 5) (m := m1) (by omega) W (x := Int32.ofNat j) hk2 ⟨okI_of (by omega) (by omega) (by omega), by rw [nN_o (by omega), hr, nN_o (by omega)]; exact hj⟩ (Or.inl h8)
  rw [ov_self hA1] at g2
  have CC := chg_of Z1 E F Z2
  have hR2 : hB TR 1 x R (ov TA 19 (x + 26) A' m1) := hB_other hR1 (by omega)
  have fr : A'.1 14 k = bx (reqS s h (Int32.ofNat j) k) k 5 := (Z2.box (k := k) (by unfold nbS; rw [req_lo (by omega)]; exact hk2)).1.2.2.2.2.2.1
  have f6 := req_5 (h := h) h8 f5
  have hk24 : k < 24 := by omega
  refine ⟨_, ?_, CC⟩
  refine en143 (hR_c0 hR) fun t ht => ?_
  obtain ⟨u, rfl⟩ := fu 9 ht rfl
  cases hq : reqB s h (Int32.ofNat j) k with
  | true =>
    rw [hq] at f6
    have f7 : bx (reqS s h (Int32.ofNat j) k) k 5 = Int32.ofNat j := f6.mpr rfl
    rw [q143_0]; (try simp -implicitDefEqProofs (disch := omega) only [↓reduceIte, hR_c0 hR, hR_r0_0 hR, hR_r0_1 hR, hR_r0_2 hR, hR_r0_3 hR, hR_r0_4 hR, hR_r0_5 hR, hR_g0_6 hR, hR_c0 hR1, hR_r0_0 hR1, hR_r0_1 hR1, hR_r0_2 hR1, hR_r0_3 hR1, hR_r0_4 hR1, hR_r0_5 hR1, hR_g0_6 hR1, hR_c0 hR2, hR_r0_0 hR2, hR_r0_1 hR2, hR_r0_2 hR2, hR_r0_3 hR2, hR_r0_4 hR2, hR_r0_5 hR2, hR_g0_6 hR2, n154_0 hR hA hl W hn hm hk, n155_0 hR hA hl W hr (show r ≤ 24 by omega) hj, q1, g1, g2, A_r0_7, A_a14, fr, f7, bd_s, kI_r, kV_r, kL_r, rZ_1, rZ_0, rZ_b, rI_ite, bI_ite, ite_tf, ite_ft, bI0, bI1, bf_ite, nAdd, nMul, nLt, nEq, nEqM, nMEq, nMLt, nLtM, nMLt0, if_true, if_false, Nat.reduceAdd, Nat.reduceMul, Nat.zero_add, Nat.add_zero, decide_eq_true_eq, decide_true, decide_false, Nat.reduceEqDiff, Nat.reduceLT, Nat.reduceLeDiff, eq_self, Bool.false_eq_true, Bool.true_eq_false, Bool.not_eq_false', Bool.not_eq_true', ite_not, kV_th, kI_th, Nat.not_lt_zero]); rw [q143_1]; (try simp -implicitDefEqProofs (disch := omega) only [↓reduceIte, hR_c0 hR, hR_r0_0 hR, hR_r0_1 hR, hR_r0_2 hR, hR_r0_3 hR, hR_r0_4 hR, hR_r0_5 hR, hR_g0_6 hR, hR_c0 hR1, hR_r0_0 hR1, hR_r0_1 hR1, hR_r0_2 hR1, hR_r0_3 hR1, hR_r0_4 hR1, hR_r0_5 hR1, hR_g0_6 hR1, hR_c0 hR2, hR_r0_0 hR2, hR_r0_1 hR2, hR_r0_2 hR2, hR_r0_3 hR2, hR_r0_4 hR2, hR_r0_5 hR2, hR_g0_6 hR2, n154_0 hR hA hl W hn hm hk, n155_0 hR hA hl W hr (show r ≤ 24 by omega) hj, q1, g1, g2, A_r0_7, A_a14, fr, f7, bd_s, kI_r, kV_r, kL_r, rZ_1, rZ_0, rZ_b, rI_ite, bI_ite, ite_tf, ite_ft, bI0, bI1, bf_ite, nAdd, nMul, nLt, nEq, nEqM, nMEq, nMLt, nLtM, nMLt0, if_true, if_false, Nat.reduceAdd, Nat.reduceMul, Nat.zero_add, Nat.add_zero, decide_eq_true_eq, decide_true, decide_false, Nat.reduceEqDiff, Nat.reduceLT, Nat.reduceLeDiff, eq_self, Bool.false_eq_true, Bool.true_eq_false, Bool.not_eq_false', Bool.not_eq_true', ite_not, kV_th, kI_th, Nat.not_lt_zero]); rw [q143_3]; (try simp -implicitDefEqProofs (disch := omega) only [↓reduceIte, hR_c0 hR, hR_r0_0 hR, hR_r0_1 hR, hR_r0_2 hR, hR_r0_3 hR, hR_r0_4 hR, hR_r0_5 hR, hR_g0_6 hR, hR_c0 hR1, hR_r0_0 hR1, hR_r0_1 hR1, hR_r0_2 hR1, hR_r0_3 hR1, hR_r0_4 hR1, hR_r0_5 hR1, hR_g0_6 hR1, hR_c0 hR2, hR_r0_0 hR2, hR_r0_1 hR2, hR_r0_2 hR2, hR_r0_3 hR2, hR_r0_4 hR2, hR_r0_5 hR2, hR_g0_6 hR2, n154_0 hR hA hl W hn hm hk, n155_0 hR hA hl W hr (show r ≤ 24 by omega) hj, q1, g1, g2, A_r0_7, A_a14, fr, f7, bd_s, kI_r, kV_r, kL_r, rZ_1, rZ_0, rZ_b, rI_ite, bI_ite, ite_tf, ite_ft, bI0, bI1, bf_ite, nAdd, nMul, nLt, nEq, nEqM, nMEq, nMLt, nLtM, nMLt0, if_true, if_false, Nat.reduceAdd, Nat.reduceMul, Nat.zero_add, Nat.add_zero, decide_eq_true_eq, decide_true, decide_false, Nat.reduceEqDiff, Nat.reduceLT, Nat.reduceLeDiff, eq_self, Bool.false_eq_true, Bool.true_eq_false, Bool.not_eq_false', Bool.not_eq_true', ite_not, kV_th, kI_th, Nat.not_lt_zero])
  | false =>
    rw [hq] at f6
    have f7 : ¬ bx (reqS s h (Int32.ofNat j) k) k 5 = Int32.ofNat j := fun q => Bool.false_ne_true (f6.mp q)
    rw [q143_0]; (try simp -implicitDefEqProofs (disch := omega) only [↓reduceIte, hR_c0 hR, hR_r0_0 hR, hR_r0_1 hR, hR_r0_2 hR, hR_r0_3 hR, hR_r0_4 hR, hR_r0_5 hR, hR_g0_6 hR, hR_c0 hR1, hR_r0_0 hR1, hR_r0_1 hR1, hR_r0_2 hR1, hR_r0_3 hR1, hR_r0_4 hR1, hR_r0_5 hR1, hR_g0_6 hR1, hR_c0 hR2, hR_r0_0 hR2, hR_r0_1 hR2, hR_r0_2 hR2, hR_r0_3 hR2, hR_r0_4 hR2, hR_r0_5 hR2, hR_g0_6 hR2, n154_0 hR hA hl W hn hm hk, n155_0 hR hA hl W hr (show r ≤ 24 by omega) hj, q1, g1, g2, A_r0_7, A_a14, fr, f7, bd_s, kI_r, kV_r, kL_r, rZ_1, rZ_0, rZ_b, rI_ite, bI_ite, ite_tf, ite_ft, bI0, bI1, bf_ite, nAdd, nMul, nLt, nEq, nEqM, nMEq, nMLt, nLtM, nMLt0, if_true, if_false, Nat.reduceAdd, Nat.reduceMul, Nat.zero_add, Nat.add_zero, decide_eq_true_eq, decide_true, decide_false, Nat.reduceEqDiff, Nat.reduceLT, Nat.reduceLeDiff, eq_self, Bool.false_eq_true, Bool.true_eq_false, Bool.not_eq_false', Bool.not_eq_true', ite_not, kV_th, kI_th, Nat.not_lt_zero]); rw [q143_1]; (try simp -implicitDefEqProofs (disch := omega) only [↓reduceIte, hR_c0 hR, hR_r0_0 hR, hR_r0_1 hR, hR_r0_2 hR, hR_r0_3 hR, hR_r0_4 hR, hR_r0_5 hR, hR_g0_6 hR, hR_c0 hR1, hR_r0_0 hR1, hR_r0_1 hR1, hR_r0_2 hR1, hR_r0_3 hR1, hR_r0_4 hR1, hR_r0_5 hR1, hR_g0_6 hR1, hR_c0 hR2, hR_r0_0 hR2, hR_r0_1 hR2, hR_r0_2 hR2, hR_r0_3 hR2, hR_r0_4 hR2, hR_r0_5 hR2, hR_g0_6 hR2, n154_0 hR hA hl W hn hm hk, n155_0 hR hA hl W hr (show r ≤ 24 by omega) hj, q1, g1, g2, A_r0_7, A_a14, fr, f7, bd_s, kI_r, kV_r, kL_r, rZ_1, rZ_0, rZ_b, rI_ite, bI_ite, ite_tf, ite_ft, bI0, bI1, bf_ite, nAdd, nMul, nLt, nEq, nEqM, nMEq, nMLt, nLtM, nMLt0, if_true, if_false, Nat.reduceAdd, Nat.reduceMul, Nat.zero_add, Nat.add_zero, decide_eq_true_eq, decide_true, decide_false, Nat.reduceEqDiff, Nat.reduceLT, Nat.reduceLeDiff, eq_self, Bool.false_eq_true, Bool.true_eq_false, Bool.not_eq_false', Bool.not_eq_true', ite_not, kV_th, kI_th, Nat.not_lt_zero]); rw [q143_2]; (try simp -implicitDefEqProofs (disch := omega) only [↓reduceIte, hR_c0 hR, hR_r0_0 hR, hR_r0_1 hR, hR_r0_2 hR, hR_r0_3 hR, hR_r0_4 hR, hR_r0_5 hR, hR_g0_6 hR, hR_c0 hR1, hR_r0_0 hR1, hR_r0_1 hR1, hR_r0_2 hR1, hR_r0_3 hR1, hR_r0_4 hR1, hR_r0_5 hR1, hR_g0_6 hR1, hR_c0 hR2, hR_r0_0 hR2, hR_r0_1 hR2, hR_r0_2 hR2, hR_r0_3 hR2, hR_r0_4 hR2, hR_r0_5 hR2, hR_g0_6 hR2, n154_0 hR hA hl W hn hm hk, n155_0 hR hA hl W hr (show r ≤ 24 by omega) hj, q1, g1, g2, A_r0_7, A_a14, fr, f7, bd_s, kI_r, kV_r, kL_r, rZ_1, rZ_0, rZ_b, rI_ite, bI_ite, ite_tf, ite_ft, bI0, bI1, bf_ite, nAdd, nMul, nLt, nEq, nEqM, nMEq, nMLt, nLtM, nMLt0, if_true, if_false, Nat.reduceAdd, Nat.reduceMul, Nat.zero_add, Nat.add_zero, decide_eq_true_eq, decide_true, decide_false, Nat.reduceEqDiff, Nat.reduceLT, Nat.reduceLeDiff, eq_self, Bool.false_eq_true, Bool.true_eq_false, Bool.not_eq_false', Bool.not_eq_true', ite_not, kV_th, kI_th, Nat.not_lt_zero]); rw [q143_3]; (try simp -implicitDefEqProofs (disch := omega) only [↓reduceIte, hR_c0 hR, hR_r0_0 hR, hR_r0_1 hR, hR_r0_2 hR, hR_r0_3 hR, hR_r0_4 hR, hR_r0_5 hR, hR_g0_6 hR, hR_c0 hR1, hR_r0_0 hR1, hR_r0_1 hR1, hR_r0_2 hR1, hR_r0_3 hR1, hR_r0_4 hR1, hR_r0_5 hR1, hR_g0_6 hR1, hR_c0 hR2, hR_r0_0 hR2, hR_r0_1 hR2, hR_r0_2 hR2, hR_r0_3 hR2, hR_r0_4 hR2, hR_r0_5 hR2, hR_g0_6 hR2, n154_0 hR hA hl W hn hm hk, n155_0 hR hA hl W hr (show r ≤ 24 by omega) hj, q1, g1, g2, A_r0_7, A_a14, fr, f7, bd_s, kI_r, kV_r, kL_r, rZ_1, rZ_0, rZ_b, rI_ite, bI_ite, ite_tf, ite_ft, bI0, bI1, bf_ite, nAdd, nMul, nLt, nEq, nEqM, nMEq, nMLt, nLtM, nMLt0, if_true, if_false, Nat.reduceAdd, Nat.reduceMul, Nat.zero_add, Nat.add_zero, decide_eq_true_eq, decide_true, decide_false, Nat.reduceEqDiff, Nat.reduceLT, Nat.reduceLeDiff, eq_self, Bool.false_eq_true, Bool.true_eq_false, Bool.not_eq_false', Bool.not_eq_true', ite_not, kV_th, kI_th, Nat.not_lt_zero])
theorem b140_0 (Z : hSys x R I H S Ar m) (K : HisOK H n c) (he : e.1 ≤ x) (hl : R.1 0 6 = Int32.ofNat 1) (W : OKA Y (Ar 0) h s) {i N y q : Nat} (hc : h 2 = Int32.ofNat N) (hN : N ≤ 8) (hi : i < N) (hY : Y ≤ 1000000) (hy : 1800 ≤ y) (hy2 : y ≤ nN (s 0)) (hb : nbS s < 24) (hf : fstS s h = Int32.ofNat q) (hq : q < mkN h) (hq2 : q ≤ 47) : ∃ m2, dN e (d + 8) 140 [.ref x, .int (Int32.ofNat i), .int (Int32.ofNat y)] m = rI (Int32.ofNat (nbS s)) m2 ∧ Chg x R I H S Ar n c Y h (newS s (Int32.ofNat i) (Int32.ofNat y) (Int32.ofNat q)) m m2 := by
  have hR := Z.1
  have hA : hB TA 19 (x + 26) (Ar 0) m := Z.2.2.2.2 0 (by omega)
  obtain ⟨m1, B', g1, Z1, E, F⟩ := rem_sys (e := e) (d := d + 4) Z K he
  have hR1 := Z1.1
  have hA1 := z0_of Z1
  have hyr := W.yr
  obtain ⟨v, v1, v2, -, v4⟩ := W.2.1.2.2.1.ex
  rw [v1] at hyr
  rw [v2] at hy2
  have q0 : dN e (d + 7) 158 [.int (Int32.ofNat y), .int (Int32.ofNat 1800), .int (Int32.ofNat v)] m = some (.inl none, m) := by
    have z1 : ¬ y < 1800 := by omega
    have z2 : ¬ v < y := by omega
    refine en158 fun t ht => ?_
    obtain ⟨u, rfl⟩ := fu 9 ht rfl
    simp -implicitDefEqProofs (disch := omega) only [↓reduceIte, q158_0, q158_1, q158_2, nLt, z1, z2]
  have q1 := k_takes (e := e) (a := x + 26) (d := d + 4) (m := m) W.z
  rw [ov_self hA, hf, decide_eq_true hb, decide_eq_false (by rw [nEqM (by omega)]; exact not_false)] at q1
  rw [show bI (true && !false) = Int32.ofNat 1 from rfl] at q1
  have q2 := k_fst (e := e) (a := x + 26) (d := d + 5) (m := m1) W.z
  rw [ov_self hA1, hf] at q2
  obtain ⟨A', g2, Z2⟩ := k_new (e := e) (a := x + 26) (d := d + 5) (m := m1) (by omega) hY W (c := i) (y := y) (q := q) hb (by rw [hc, nN_o (by omega)]; exact hi) (by omega) hy (by rw [v2]; exact hy2) hq hq2
  rw [ov_self hA1] at g2
  have CC := chg_of Z1 E F Z2
  have hR2 : hB TR 1 x R (ov TA 19 (x + 26) A' m1) := hB_other hR1 (by omega)
  have fn : A'.1 0 13 = Int32.ofNat (nbS s + 1) := Z2.1.2.1
  refine ⟨_, ?_, CC⟩
  refine en140 (hR_c0 hR) fun t ht => ?_
  obtain ⟨u, rfl⟩ := fu 9 ht rfl
  rw [q140_0]; (try simp -implicitDefEqProofs (disch := omega) only [↓reduceIte, hR_c0 hR, hR_r0_0 hR, hR_r0_1 hR, hR_r0_2 hR, hR_r0_3 hR, hR_r0_4 hR, hR_r0_5 hR, hR_g0_6 hR, hR_c0 hR1, hR_r0_0 hR1, hR_r0_1 hR1, hR_r0_2 hR1, hR_r0_3 hR1, hR_r0_4 hR1, hR_r0_5 hR1, hR_g0_6 hR1, hR_c0 hR2, hR_r0_0 hR2, hR_r0_1 hR2, hR_r0_2 hR2, hR_r0_3 hR2, hR_r0_4 hR2, hR_r0_5 hR2, hR_g0_6 hR2, hA_c0 hA, hA_r0_0 hA, hA_r0_1 hA, hA_r0_2 hA, hA_r0_3 hA, hA_r0_4 hA, hA_r0_5 hA, hA_r0_6 hA, hA_r0_7 hA, hA_r0_8 hA, hA_r0_9 hA, hA_r0_10 hA, hA_r0_11 hA, hA_g0_12 hA, hA_g0_13 hA, hA_g0_14 hA, hA_g0_15 hA, hA_g0_16 hA, hA_c1 hA, hA_r1_0 hA, hA_r1_1 hA, hA_r1_2 hA, hA_r1_3 hA, hA_g1_4 hA, hA_a2 hA, hA_n2 hA, hA_a3 hA, hA_n3 hA, hA_a4 hA, hA_n4 hA, hA_a5 hA, hA_n5 hA, hA_c6 hA, hA_r6_0 hA, hA_r6_1 hA, hA_g6_2 hA, hA_a7 hA, hA_n7 hA, hA_a8 hA, hA_n8 hA, hA_a9 hA, hA_n9 hA, hA_a10 hA, hA_n10 hA, hA_a11 hA, hA_n11 hA, hA_a12 hA, hA_n12 hA, hA_a13 hA, hA_n13 hA, hA_a14 hA, hA_n14 hA, hA_a15 hA, hA_n15 hA, hA_a16 hA, hA_n16 hA, hA_a17 hA, hA_n17 hA, hA_a18 hA, hA_n18 hA, n153_0 hR hA hl W hc (show N ≤ 24 by omega) hi, hyr, q0, q1, q2, Bool.and_self, Bool.not_false, Bool.and_true, g1, g2, A_g0_13, fn, nSub, Nat.add_sub_cancel, nEq, Nat.one_ne_zero, bd_s, kI_r, kV_r, kL_r, rZ_1, rZ_0, rZ_b, rI_ite, bI_ite, ite_tf, ite_ft, bI0, bI1, bf_ite, nAdd, nMul, nLt, nEq, nEqM, nMEq, nMLt, nLtM, nMLt0, if_true, if_false, Nat.reduceAdd, Nat.reduceMul, Nat.zero_add, Nat.add_zero, decide_eq_true_eq, decide_true, decide_false, Nat.reduceEqDiff, Nat.reduceLT, Nat.reduceLeDiff, eq_self, Bool.false_eq_true, Bool.true_eq_false, Bool.not_eq_false', Bool.not_eq_true', ite_not, kV_th, kI_th, Nat.not_lt_zero]); rw [q140_1]; (try simp -implicitDefEqProofs (disch := omega) only [↓reduceIte, hR_c0 hR, hR_r0_0 hR, hR_r0_1 hR, hR_r0_2 hR, hR_r0_3 hR, hR_r0_4 hR, hR_r0_5 hR, hR_g0_6 hR, hR_c0 hR1, hR_r0_0 hR1, hR_r0_1 hR1, hR_r0_2 hR1, hR_r0_3 hR1, hR_r0_4 hR1, hR_r0_5 hR1, hR_g0_6 hR1, hR_c0 hR2, hR_r0_0 hR2, hR_r0_1 hR2, hR_r0_2 hR2, hR_r0_3 hR2, hR_r0_4 hR2, hR_r0_5 hR2, hR_g0_6 hR2, hA_c0 hA, hA_r0_0 hA, hA_r0_1 hA, hA_r0_2 hA, hA_r0_3 hA, hA_r0_4 hA, hA_r0_5 hA, hA_r0_6 hA, hA_r0_7 hA, hA_r0_8 hA, hA_r0_9 hA, hA_r0_10 hA, hA_r0_11 hA, hA_g0_12 hA, hA_g0_13 hA, hA_g0_14 hA, hA_g0_15 hA, hA_g0_16 hA, hA_c1 hA, hA_r1_0 hA, hA_r1_1 hA, hA_r1_2 hA, hA_r1_3 hA, hA_g1_4 hA, hA_a2 hA, hA_n2 hA, hA_a3 hA, hA_n3 hA, hA_a4 hA, hA_n4 hA, hA_a5 hA, hA_n5 hA, hA_c6 hA, hA_r6_0 hA, hA_r6_1 hA, hA_g6_2 hA, hA_a7 hA, hA_n7 hA, hA_a8 hA, hA_n8 hA, hA_a9 hA, hA_n9 hA, hA_a10 hA, hA_n10 hA, hA_a11 hA, hA_n11 hA, hA_a12 hA, hA_n12 hA, hA_a13 hA, hA_n13 hA, hA_a14 hA, hA_n14 hA, hA_a15 hA, hA_n15 hA, hA_a16 hA, hA_n16 hA, hA_a17 hA, hA_n17 hA, hA_a18 hA, hA_n18 hA, n153_0 hR hA hl W hc (show N ≤ 24 by omega) hi, hyr, q0, q1, q2, Bool.and_self, Bool.not_false, Bool.and_true, g1, g2, A_g0_13, fn, nSub, Nat.add_sub_cancel, nEq, Nat.one_ne_zero, bd_s, kI_r, kV_r, kL_r, rZ_1, rZ_0, rZ_b, rI_ite, bI_ite, ite_tf, ite_ft, bI0, bI1, bf_ite, nAdd, nMul, nLt, nEq, nEqM, nMEq, nMLt, nLtM, nMLt0, if_true, if_false, Nat.reduceAdd, Nat.reduceMul, Nat.zero_add, Nat.add_zero, decide_eq_true_eq, decide_true, decide_false, Nat.reduceEqDiff, Nat.reduceLT, Nat.reduceLeDiff, eq_self, Bool.false_eq_true, Bool.true_eq_false, Bool.not_eq_false', Bool.not_eq_true', ite_not, kV_th, kI_th, Nat.not_lt_zero])
end
end

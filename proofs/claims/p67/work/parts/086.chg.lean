/-! ===== the class's changes of boxes (printed by wip/whole/api5.py) ===== -/
noncomputable section
theorem WS_4 {Y : Nat} {h s : sV} {k q : Nat} (W : WS Y h s) (H : WH h) (hg : gonB s k = false) (hq : q < mkN h) : WS Y h (lay s k 4 (Int32.ofNat q)) := by
  have hm := (WH_mk H).2.2
  refine WS_box (k := k) W (fun j hj => lay_lo hj) (lay_oth (by omega)) (lay_n (by omega) (by omega) (by omega)) (lay_n (by omega) (by omega) (by omega)) (lay_n (by omega) (by omega) (by omega)) (fun hk => ?_)
  have w := W.2.2.2.1 k hk
  obtain ⟨a0, a1, a2, a3, a4, a5, a6, a7⟩ := w
  have h3 := a6.2.2
  have h7 : bx s k 7 = Int32.ofNat 0 := by
    rcases a4 with ⟨x, y⟩ | ⟨x, y, z⟩
    · have : gonB s k = true := decide_eq_true y
      rw [this] at hg
      cases hg
    · exact z
  refine WB_of (W.2.2.2.1 k hk) (lay_lo (by omega)) (lay_n (by omega) (by omega) (by omega)) (lay_n (by omega) (by omega) (by omega)) (lay_n (by omega) (by omega) (by omega)) (Or.inr ?_) ?_ ?_ ?_
  · rw [lay_s (by omega), lay_n (by omega) (by omega) (by omega), nN_o (by omega)]
    exact ⟨okI_of (by omega) (by omega) (by omega), hq, h7⟩
  · rw [lay_n (by omega) (by omega) (by omega)]; exact a5
  · rw [lay_n (by omega) (by omega) (by omega)]; exact a6
  · rw [lay_n (by omega) (by omega) (by omega)]
    intro i hi
    rw [lay_n (by omega) (by omega) (by omega)]
    exact a7 i hi
section
variable {e : dEnv} {d x Y n c : Nat} {R I H S : bX} {Ar : Nat → bX} {h s : sV} {m : dMem}
theorem OKA_seal {A : bX} (Z : OKA Y A h s) {k : Nat} {y : Int32} (hk : k < nbS s) : OKA Y (uA A 13 (wr (A.1 13) k (y))) h (lay s k 3 (y)) := by
  obtain ⟨⟨r0, r1, r2, r4, r3, r5, r6, r8, r9⟩, wb, hk24⟩ := Z.box hk
  refine OKA_box (k := k) Z (WS_36 Z.2.1 (Or.inl rfl)) (fun j hj => lay_lo hj) (by simp (disch := omega) only [uA_n]) (fun i h1 h2 => by simp (disch := omega) only [uA_n]) (by simp (disch := omega) only [uA_n]) rfl (fun k' hne i h1 h2 => ?_) (fun k' hne i hi => by simp (disch := omega) only [uA_n]) (fun k' f h1 h2 => lay_oth (by omega) _ _ h1 h2) (fun _ => ?_)
  · by_cases q : i = 13
    · subst q
      simp (disch := omega) only [uA_s, wr_n]
    · simp (disch := omega) only [uA_n]
  · have o : ∀ f, f < 12 → f ≠ 3 → bx (lay s k 3 (y)) k f = bx s k f := fun f hf h2 => lay_n (by omega) hf h2
    have w3 := wb.2.2.2.2.2.2.1.2.2
    unfold RB
    rw [o 0 (by omega) (by omega), o 1 (by omega) (by omega), o 2 (by omega) (by omega), o 4 (by omega) (by omega), o 5 (by omega) (by omega), o 6 (by omega) (by omega), o 8 (by omega) (by omega),  lay_s (by omega)]
    simp (disch := omega) only [uA_n, uA_s, wr_s]
    refine ⟨r0, r1, r2, r4, trivial, r5, r6, r8, fun i hi => ?_⟩
    rw [o (9 + i) (by omega) (by omega)]
    exact r9 i hi
theorem hA_s13 {a : Nat} {A : bX} {k : Nat} {y : Int32} (Z : hB TA 19 a A m) (he : e.1 ≤ a) (hk : k < 24) : sI e m 0 (a + 13) (Int32.ofNat k) y = some (ov TA 19 a (uA A 13 (wr (A.1 13) k y)) m) := by
  have := A_s13 (a := a) (X := A) (m := m) (x := y) he hk
  rwa [ov_self Z] at this
theorem OKA_move {A : bX} (Z : OKA Y A h s) {k q : Nat} (hk : k < nbS s) (hg : gonB s k = false) (hq : q < mkN h) : OKA Y (uA A 12 (wr (A.1 12) k (Int32.ofNat q))) h (lay s k 4 (Int32.ofNat q)) := by
  obtain ⟨⟨r0, r1, r2, r4, r3, r5, r6, r8, r9⟩, wb, hk24⟩ := Z.box hk
  refine OKA_box (k := k) Z (WS_4 Z.2.1 Z.2.2 hg hq) (fun j hj => lay_lo hj) (by simp (disch := omega) only [uA_n]) (fun i h1 h2 => by simp (disch := omega) only [uA_n]) (by simp (disch := omega) only [uA_n]) rfl (fun k' hne i h1 h2 => ?_) (fun k' hne i hi => by simp (disch := omega) only [uA_n]) (fun k' f h1 h2 => lay_oth (by omega) _ _ h1 h2) (fun _ => ?_)
  · by_cases q : i = 12
    · subst q
      simp (disch := omega) only [uA_s, wr_n]
    · simp (disch := omega) only [uA_n]
  · have o : ∀ f, f < 12 → f ≠ 4 → bx (lay s k 4 (Int32.ofNat q)) k f = bx s k f := fun f hf h2 => lay_n (by omega) hf h2
    have w3 := wb.2.2.2.2.2.2.1.2.2
    unfold RB
    rw [o 0 (by omega) (by omega), o 1 (by omega) (by omega), o 2 (by omega) (by omega), o 3 (by omega) (by omega), o 5 (by omega) (by omega), o 6 (by omega) (by omega), o 8 (by omega) (by omega),  lay_s (by omega)]
    simp (disch := omega) only [uA_n, uA_s, wr_s]
    refine ⟨r0, r1, r2, trivial, r3, r5, r6, r8, fun i hi => ?_⟩
    rw [o (9 + i) (by omega) (by omega)]
    exact r9 i hi
theorem hA_s12 {a : Nat} {A : bX} {k : Nat} {y : Int32} (Z : hB TA 19 a A m) (he : e.1 ≤ a) (hk : k < 24) : sI e m 0 (a + 12) (Int32.ofNat k) y = some (ov TA 19 a (uA A 12 (wr (A.1 12) k y)) m) := by
  have := A_s12 (a := a) (X := A) (m := m) (x := y) he hk
  rwa [ov_self Z] at this
theorem b144_0 (Z : hSys x R I H S Ar m) (K : HisOK H n c) (he : e.1 ≤ x) (hl : R.1 0 6 = Int32.ofNat 1) (W : OKA Y (Ar 0) h s) {k N : Nat} (hn : s 1 = Int32.ofNat N) (hm : N ≤ 24) (hk : k < N) (h5 : ¬ bx s k 5 = nM1) : ∃ m2, dN e (d + 8) 144 [.ref x, .int (Int32.ofNat k)] m = rI (bx (gbkS s h k) k 5) m2 ∧ Chg x R I H S Ar n c (Y) h (gbkS s h k) m m2 := by
  have hR := Z.1
  have hA : hB TA 19 (x + 26) (Ar 0) m := Z.2.2.2.2 0 (by omega)
  obtain ⟨m1, B', g1, Z1, E, F⟩ := rem_sys (e := e) (d := d + 4) Z K he
  have hR1 := Z1.1
  have hA1 := z0_of Z1
  have hk2 : k < nbS s := by unfold nbS; rw [hn, nN_o (by omega)]; exact hk
  have q1 := k_lent (e := e) (a := x + 26) (d := d + 6) (m := m) W.z hk2
  rw [ov_self hA] at q1
  obtain ⟨A', g2, Z2⟩ := k_takeBack (e := e) (a := x + 26) (d := d + 4) (m := m1) (by omega) W hk2
  rw [ov_self hA1] at g2
  have CC := chg_of Z1 E F Z2
  have hR2 : hB TR 1 x R (ov TA 19 (x + 26) A' m1) := hB_other hR1 (by omega)
  have f5 : A'.1 14 k = bx (gbkS s h k) k 5 := (Z2.box (k := k) (by unfold nbS gbkS; rw [srv_lo (by omega), lay_lo (by omega)]; exact hk2)).1.2.2.2.2.2.1
  have hk24 : k < 24 := by omega
  refine ⟨_, ?_, CC⟩
  refine en144 (hR_c0 hR) fun t ht => ?_
  obtain ⟨u, rfl⟩ := fu 9 ht rfl
  rw [q144_0]; (try simp -implicitDefEqProofs (disch := omega) only [↓reduceIte, n154_0 hR hA hl W hn hm hk, q1, h5, f5, A_r0_7, A_a14, g1, g2, hR_c0 hR2, hR_r0_0 hR2, hR_r0_1 hR2, hR_r0_2 hR2, hR_r0_3 hR2, hR_r0_4 hR2, hR_r0_5 hR2, hR_g0_6 hR2, bd_s, kI_r, kV_r, kL_r, rZ_1, rZ_0, rZ_b, rI_ite, bI_ite, ite_tf, ite_ft, bI0, bI1, bf_ite, nAdd, nMul, nLt, nEq, nEqM, nMEq, nMLt, nLtM, nMLt0, if_true, if_false, Nat.reduceAdd, Nat.reduceMul, Nat.zero_add, Nat.add_zero, decide_eq_true_eq, decide_true, decide_false, Nat.reduceEqDiff, Nat.reduceLT, Nat.reduceLeDiff, eq_self, Bool.false_eq_true, Bool.true_eq_false, Bool.not_eq_false', Bool.not_eq_true', ite_not, hR_c0 hR, hR_r0_0 hR, hR_r0_1 hR, hR_r0_2 hR, hR_r0_3 hR, hR_r0_4 hR, hR_r0_5 hR, hR_g0_6 hR, hR_c0 hR1, hR_r0_0 hR1, hR_r0_1 hR1, hR_r0_2 hR1, hR_r0_3 hR1, hR_r0_4 hR1, hR_r0_5 hR1, hR_g0_6 hR1, hA_c0 hA1, hA_r0_0 hA1, hA_r0_1 hA1, hA_r0_2 hA1, hA_r0_3 hA1, hA_r0_4 hA1, hA_r0_5 hA1, hA_r0_6 hA1, hA_r0_7 hA1, hA_r0_8 hA1, hA_r0_9 hA1, hA_r0_10 hA1, hA_r0_11 hA1, hA_g0_12 hA1, hA_g0_13 hA1, hA_g0_14 hA1, hA_g0_15 hA1, hA_g0_16 hA1, hA_c1 hA1, hA_r1_0 hA1, hA_r1_1 hA1, hA_r1_2 hA1, hA_r1_3 hA1, hA_g1_4 hA1, hA_a2 hA1, hA_n2 hA1, hA_a3 hA1, hA_n3 hA1, hA_a4 hA1, hA_n4 hA1, hA_a5 hA1, hA_n5 hA1, hA_c6 hA1, hA_r6_0 hA1, hA_r6_1 hA1, hA_g6_2 hA1, hA_a7 hA1, hA_n7 hA1, hA_a8 hA1, hA_n8 hA1, hA_a9 hA1, hA_n9 hA1, hA_a10 hA1, hA_n10 hA1, hA_a11 hA1, hA_n11 hA1, hA_a12 hA1, hA_n12 hA1, hA_a13 hA1, hA_n13 hA1, hA_a14 hA1, hA_n14 hA1, hA_a15 hA1, hA_n15 hA1, hA_a16 hA1, hA_n16 hA1, hA_a17 hA1, hA_n17 hA1, hA_a18 hA1, hA_n18 hA1, kV_th, kI_th, Nat.not_lt_zero]); rw [q144_1]; (try simp -implicitDefEqProofs (disch := omega) only [↓reduceIte, n154_0 hR hA hl W hn hm hk, q1, h5, f5, A_r0_7, A_a14, g1, g2, hR_c0 hR2, hR_r0_0 hR2, hR_r0_1 hR2, hR_r0_2 hR2, hR_r0_3 hR2, hR_r0_4 hR2, hR_r0_5 hR2, hR_g0_6 hR2, bd_s, kI_r, kV_r, kL_r, rZ_1, rZ_0, rZ_b, rI_ite, bI_ite, ite_tf, ite_ft, bI0, bI1, bf_ite, nAdd, nMul, nLt, nEq, nEqM, nMEq, nMLt, nLtM, nMLt0, if_true, if_false, Nat.reduceAdd, Nat.reduceMul, Nat.zero_add, Nat.add_zero, decide_eq_true_eq, decide_true, decide_false, Nat.reduceEqDiff, Nat.reduceLT, Nat.reduceLeDiff, eq_self, Bool.false_eq_true, Bool.true_eq_false, Bool.not_eq_false', Bool.not_eq_true', ite_not, hR_c0 hR, hR_r0_0 hR, hR_r0_1 hR, hR_r0_2 hR, hR_r0_3 hR, hR_r0_4 hR, hR_r0_5 hR, hR_g0_6 hR, hR_c0 hR1, hR_r0_0 hR1, hR_r0_1 hR1, hR_r0_2 hR1, hR_r0_3 hR1, hR_r0_4 hR1, hR_r0_5 hR1, hR_g0_6 hR1, hA_c0 hA1, hA_r0_0 hA1, hA_r0_1 hA1, hA_r0_2 hA1, hA_r0_3 hA1, hA_r0_4 hA1, hA_r0_5 hA1, hA_r0_6 hA1, hA_r0_7 hA1, hA_r0_8 hA1, hA_r0_9 hA1, hA_r0_10 hA1, hA_r0_11 hA1, hA_g0_12 hA1, hA_g0_13 hA1, hA_g0_14 hA1, hA_g0_15 hA1, hA_g0_16 hA1, hA_c1 hA1, hA_r1_0 hA1, hA_r1_1 hA1, hA_r1_2 hA1, hA_r1_3 hA1, hA_g1_4 hA1, hA_a2 hA1, hA_n2 hA1, hA_a3 hA1, hA_n3 hA1, hA_a4 hA1, hA_n4 hA1, hA_a5 hA1, hA_n5 hA1, hA_c6 hA1, hA_r6_0 hA1, hA_r6_1 hA1, hA_g6_2 hA1, hA_a7 hA1, hA_n7 hA1, hA_a8 hA1, hA_n8 hA1, hA_a9 hA1, hA_n9 hA1, hA_a10 hA1, hA_n10 hA1, hA_a11 hA1, hA_n11 hA1, hA_a12 hA1, hA_n12 hA1, hA_a13 hA1, hA_n13 hA1, hA_a14 hA1, hA_n14 hA1, hA_a15 hA1, hA_n15 hA1, hA_a16 hA1, hA_n16 hA1, hA_a17 hA1, hA_n17 hA1, hA_a18 hA1, hA_n18 hA1, kV_th, kI_th, Nat.not_lt_zero])
theorem b146_0 (Z : hSys x R I H S Ar m) (K : HisOK H n c) (he : e.1 ≤ x) (hl : R.1 0 6 = Int32.ofNat 1) (W : OKA Y (Ar 0) h s) {k N : Nat} (hn : s 1 = Int32.ofNat N) (hm : N ≤ 24) (hk : k < N) {y p : Nat} (h1 : 1 ≤ y) (h20 : y ≤ 20) (hY : Y ≤ 1000000) (hp : fnd (nlS s) (fun i => decide (s (3 + i) = Int32.ofNat k)) = some p) : ∃ m2, dN e (d + 8) 146 [.ref x, .int (Int32.ofNat k), .int (Int32.ofNat y)] m = rI (dueS (stkS s k (Int32.ofNat y)) h k) m2 ∧ Chg x R I H S Ar n c (Y) h (stkS s k (Int32.ofNat y)) m m2 := by
  have hR := Z.1
  have hA : hB TA 19 (x + 26) (Ar 0) m := Z.2.2.2.2 0 (by omega)
  obtain ⟨m1, B', g1, Z1, E, F⟩ := rem_sys (e := e) (d := d + 4) Z K he
  have hR1 := Z1.1
  have hA1 := z0_of Z1
  have hk2 : k < nbS s := by unfold nbS; rw [hn, nN_o (by omega)]; exact hk
  have q1 := k_posOf (e := e) (a := x + 26) (d := d + 6) (m := m) W (x := Int32.ofNat k)
  rw [ov_self hA] at q1
  have q2 : fI (nlS s) (fun i => decide (s (3 + i) = Int32.ofNat k)) = Int32.ofNat p := by unfold fI; rw [hp]; rfl
  rw [q2] at q1
  have hp24 : p < 24 := by have := (fnd_some hp).1; have := W.2.1.2.1.2.2; unfold nlS at *; omega
  obtain ⟨A', g2, Z2⟩ := k_strike (e := e) (a := x + 26) (d := d + 5) (m := m1) (by omega) hY W hk2 hp h20
  rw [ov_self hA1] at g2
  have CC := chg_of Z1 E F Z2
  have hR2 : hB TR 1 x R (ov TA 19 (x + 26) A' m1) := hB_other hR1 (by omega)
  have g3 := k_due (e := e) (a := x + 26) (d := d + 6) (m := m1) Z2.z (k := k) (by unfold nbS; rw [(stk_is W.2.1 (fnd_some hp).1 (of_decide_eq_true (fnd_some hp).2.1)).1 1 (by omega)]; exact hk2)
  refine ⟨_, ?_, CC⟩
  refine en146 (hR_c0 hR) fun t ht => ?_
  obtain ⟨u, rfl⟩ := fu 9 ht rfl
  rw [q146_0]; (try simp -implicitDefEqProofs (disch := omega) only [↓reduceIte, n154_0 hR hA hl W hn hm hk, n158_0 h1 h20 (by omega), q1, g3, g1, g2, hR_c0 hR2, hR_r0_0 hR2, hR_r0_1 hR2, hR_r0_2 hR2, hR_r0_3 hR2, hR_r0_4 hR2, hR_r0_5 hR2, hR_g0_6 hR2, bd_s, kI_r, kV_r, kL_r, rZ_1, rZ_0, rZ_b, rI_ite, bI_ite, ite_tf, ite_ft, bI0, bI1, bf_ite, nAdd, nMul, nLt, nEq, nEqM, nMEq, nMLt, nLtM, nMLt0, if_true, if_false, Nat.reduceAdd, Nat.reduceMul, Nat.zero_add, Nat.add_zero, decide_eq_true_eq, decide_true, decide_false, Nat.reduceEqDiff, Nat.reduceLT, Nat.reduceLeDiff, eq_self, Bool.false_eq_true, Bool.true_eq_false, Bool.not_eq_false', Bool.not_eq_true', ite_not, hR_c0 hR, hR_r0_0 hR, hR_r0_1 hR, hR_r0_2 hR, hR_r0_3 hR, hR_r0_4 hR, hR_r0_5 hR, hR_g0_6 hR, hR_c0 hR1, hR_r0_0 hR1, hR_r0_1 hR1, hR_r0_2 hR1, hR_r0_3 hR1, hR_r0_4 hR1, hR_r0_5 hR1, hR_g0_6 hR1, hA_c0 hA1, hA_r0_0 hA1, hA_r0_1 hA1, hA_r0_2 hA1, hA_r0_3 hA1, hA_r0_4 hA1, hA_r0_5 hA1, hA_r0_6 hA1, hA_r0_7 hA1, hA_r0_8 hA1, hA_r0_9 hA1, hA_r0_10 hA1, hA_r0_11 hA1, hA_g0_12 hA1, hA_g0_13 hA1, hA_g0_14 hA1, hA_g0_15 hA1, hA_g0_16 hA1, hA_c1 hA1, hA_r1_0 hA1, hA_r1_1 hA1, hA_r1_2 hA1, hA_r1_3 hA1, hA_g1_4 hA1, hA_a2 hA1, hA_n2 hA1, hA_a3 hA1, hA_n3 hA1, hA_a4 hA1, hA_n4 hA1, hA_a5 hA1, hA_n5 hA1, hA_c6 hA1, hA_r6_0 hA1, hA_r6_1 hA1, hA_g6_2 hA1, hA_a7 hA1, hA_n7 hA1, hA_a8 hA1, hA_n8 hA1, hA_a9 hA1, hA_n9 hA1, hA_a10 hA1, hA_n10 hA1, hA_a11 hA1, hA_n11 hA1, hA_a12 hA1, hA_n12 hA1, hA_a13 hA1, hA_n13 hA1, hA_a14 hA1, hA_n14 hA1, hA_a15 hA1, hA_n15 hA1, hA_a16 hA1, hA_n16 hA1, hA_a17 hA1, hA_n17 hA1, hA_a18 hA1, hA_n18 hA1, kV_th, kI_th, Nat.not_lt_zero]); rw [q146_1]; (try simp -implicitDefEqProofs (disch := omega) only [↓reduceIte, n154_0 hR hA hl W hn hm hk, n158_0 h1 h20 (by omega), q1, g3, g1, g2, hR_c0 hR2, hR_r0_0 hR2, hR_r0_1 hR2, hR_r0_2 hR2, hR_r0_3 hR2, hR_r0_4 hR2, hR_r0_5 hR2, hR_g0_6 hR2, bd_s, kI_r, kV_r, kL_r, rZ_1, rZ_0, rZ_b, rI_ite, bI_ite, ite_tf, ite_ft, bI0, bI1, bf_ite, nAdd, nMul, nLt, nEq, nEqM, nMEq, nMLt, nLtM, nMLt0, if_true, if_false, Nat.reduceAdd, Nat.reduceMul, Nat.zero_add, Nat.add_zero, decide_eq_true_eq, decide_true, decide_false, Nat.reduceEqDiff, Nat.reduceLT, Nat.reduceLeDiff, eq_self, Bool.false_eq_true, Bool.true_eq_false, Bool.not_eq_false', Bool.not_eq_true', ite_not, hR_c0 hR, hR_r0_0 hR, hR_r0_1 hR, hR_r0_2 hR, hR_r0_3 hR, hR_r0_4 hR, hR_r0_5 hR, hR_g0_6 hR, hR_c0 hR1, hR_r0_0 hR1, hR_r0_1 hR1, hR_r0_2 hR1, hR_r0_3 hR1, hR_r0_4 hR1, hR_r0_5 hR1, hR_g0_6 hR1, hA_c0 hA1, hA_r0_0 hA1, hA_r0_1 hA1, hA_r0_2 hA1, hA_r0_3 hA1, hA_r0_4 hA1, hA_r0_5 hA1, hA_r0_6 hA1, hA_r0_7 hA1, hA_r0_8 hA1, hA_r0_9 hA1, hA_r0_10 hA1, hA_r0_11 hA1, hA_g0_12 hA1, hA_g0_13 hA1, hA_g0_14 hA1, hA_g0_15 hA1, hA_g0_16 hA1, hA_c1 hA1, hA_r1_0 hA1, hA_r1_1 hA1, hA_r1_2 hA1, hA_r1_3 hA1, hA_g1_4 hA1, hA_a2 hA1, hA_n2 hA1, hA_a3 hA1, hA_n3 hA1, hA_a4 hA1, hA_n4 hA1, hA_a5 hA1, hA_n5 hA1, hA_c6 hA1, hA_r6_0 hA1, hA_r6_1 hA1, hA_g6_2 hA1, hA_a7 hA1, hA_n7 hA1, hA_a8 hA1, hA_n8 hA1, hA_a9 hA1, hA_n9 hA1, hA_a10 hA1, hA_n10 hA1, hA_a11 hA1, hA_n11 hA1, hA_a12 hA1, hA_n12 hA1, hA_a13 hA1, hA_n13 hA1, hA_a14 hA1, hA_n14 hA1, hA_a15 hA1, hA_n15 hA1, hA_a16 hA1, hA_n16 hA1, hA_a17 hA1, hA_n17 hA1, hA_a18 hA1, hA_n18 hA1, kV_th, kI_th, Nat.not_lt_zero])
theorem b142_0 (Z : hSys x R I H S Ar m) (K : HisOK H n c) (he : e.1 ≤ x) (hl : R.1 0 6 = Int32.ofNat 1) (W : OKA Y (Ar 0) h s) {k N : Nat} (hn : s 1 = Int32.ofNat N) (hm : N ≤ 24) (hk : k < N) {y : Int32} (h1 : rngB (s 0).toInt 9999 y = true) (hg : gonB s k = false) : ∃ m2, dN e (d + 8) 142 [.ref x, .int (Int32.ofNat k), .int y] m = rI (bx s k 3) m2 ∧ Chg x R I H S Ar n c (Y) h (lay s k 3 y) m m2 := by
  have hR := Z.1
  have hA : hB TA 19 (x + 26) (Ar 0) m := Z.2.2.2.2 0 (by omega)
  obtain ⟨m1, B', g1, Z1, E, F⟩ := rem_sys (e := e) (d := d + 4) Z K he
  have hR1 := Z1.1
  have hA1 := z0_of Z1
  have hk2 : k < nbS s := by unfold nbS; rw [hn, nN_o (by omega)]; exact hk
  have q1 := k_dest (e := e) (a := x + 26) (d := d + 6) (m := m) W.z hk2
  rw [ov_self hA] at q1
  have hk24 : k < 24 := by omega
  have r3 := (W.box hk2).1.2.2.2.2.1
  have hy := W.yr
  have q3 : ¬ y < s 0 := by
    unfold rngB at h1
    simp only [Bool.and_eq_true, decide_eq_true_eq] at h1
    rw [Int32.lt_iff_toInt_lt]
    omega
  have q4 : ¬ Int32.ofNat 9999 < y := by
    unfold rngB at h1
    simp only [Bool.and_eq_true, decide_eq_true_eq] at h1
    rw [Int32.lt_iff_toInt_lt, nToI (by omega)]
    omega
  have q5 : dN e (d + 7) 158 [.int y, .int (s 0), .int (Int32.ofNat 9999)] m = some (.inl none, m) := by
    refine en158 fun t ht => ?_
    obtain ⟨u, rfl⟩ := fu 9 ht rfl
    simp -implicitDefEqProofs (disch := omega) only [↓reduceIte, q158_0, q158_1, q158_2, q3, q4]
  have Z2 := OKA_seal W (y := y) hk2
  have CC := chg_of Z1 E F Z2
  have hR2 : hB TR 1 x R (ov TA 19 (x + 26) (uA (Ar 0) 13 (wr ((Ar 0).1 13) k y)) m1) := hB_other hR1 (by omega)
  refine ⟨_, ?_, CC⟩
  refine en142 (hR_c0 hR) fun t ht => ?_
  obtain ⟨u, rfl⟩ := fu 9 ht rfl
  rw [q142_0]; (try simp -implicitDefEqProofs (disch := omega) only [↓reduceIte, n154_0 hR hA hl W hn hm hk, hy, q5, q1, hg, r3, hA_s13 hA1 (show e.1 ≤ x + 26 by omega), hA_c0 hA, hA_r0_0 hA, hA_r0_1 hA, hA_r0_2 hA, hA_r0_3 hA, hA_r0_4 hA, hA_r0_5 hA, hA_r0_6 hA, hA_r0_7 hA, hA_r0_8 hA, hA_r0_9 hA, hA_r0_10 hA, hA_r0_11 hA, hA_g0_12 hA, hA_g0_13 hA, hA_g0_14 hA, hA_g0_15 hA, hA_g0_16 hA, hA_c1 hA, hA_r1_0 hA, hA_r1_1 hA, hA_r1_2 hA, hA_r1_3 hA, hA_g1_4 hA, hA_a2 hA, hA_n2 hA, hA_a3 hA, hA_n3 hA, hA_a4 hA, hA_n4 hA, hA_a5 hA, hA_n5 hA, hA_c6 hA, hA_r6_0 hA, hA_r6_1 hA, hA_g6_2 hA, hA_a7 hA, hA_n7 hA, hA_a8 hA, hA_n8 hA, hA_a9 hA, hA_n9 hA, hA_a10 hA, hA_n10 hA, hA_a11 hA, hA_n11 hA, hA_a12 hA, hA_n12 hA, hA_a13 hA, hA_n13 hA, hA_a14 hA, hA_n14 hA, hA_a15 hA, hA_n15 hA, hA_a16 hA, hA_n16 hA, hA_a17 hA, hA_n17 hA, hA_a18 hA, hA_n18 hA, g1, hR_c0 hR2, hR_r0_0 hR2, hR_r0_1 hR2, hR_r0_2 hR2, hR_r0_3 hR2, hR_r0_4 hR2, hR_r0_5 hR2, hR_g0_6 hR2, bd_s, kI_r, kV_r, kL_r, rZ_1, rZ_0, rZ_b, rI_ite, bI_ite, ite_tf, ite_ft, bI0, bI1, bf_ite, nAdd, nMul, nLt, nEq, nEqM, nMEq, nMLt, nLtM, nMLt0, if_true, if_false, Nat.reduceAdd, Nat.reduceMul, Nat.zero_add, Nat.add_zero, decide_eq_true_eq, decide_true, decide_false, Nat.reduceEqDiff, Nat.reduceLT, Nat.reduceLeDiff, eq_self, Bool.false_eq_true, Bool.true_eq_false, Bool.not_eq_false', Bool.not_eq_true', ite_not, hR_c0 hR, hR_r0_0 hR, hR_r0_1 hR, hR_r0_2 hR, hR_r0_3 hR, hR_r0_4 hR, hR_r0_5 hR, hR_g0_6 hR, hR_c0 hR1, hR_r0_0 hR1, hR_r0_1 hR1, hR_r0_2 hR1, hR_r0_3 hR1, hR_r0_4 hR1, hR_r0_5 hR1, hR_g0_6 hR1, hA_c0 hA1, hA_r0_0 hA1, hA_r0_1 hA1, hA_r0_2 hA1, hA_r0_3 hA1, hA_r0_4 hA1, hA_r0_5 hA1, hA_r0_6 hA1, hA_r0_7 hA1, hA_r0_8 hA1, hA_r0_9 hA1, hA_r0_10 hA1, hA_r0_11 hA1, hA_g0_12 hA1, hA_g0_13 hA1, hA_g0_14 hA1, hA_g0_15 hA1, hA_g0_16 hA1, hA_c1 hA1, hA_r1_0 hA1, hA_r1_1 hA1, hA_r1_2 hA1, hA_r1_3 hA1, hA_g1_4 hA1, hA_a2 hA1, hA_n2 hA1, hA_a3 hA1, hA_n3 hA1, hA_a4 hA1, hA_n4 hA1, hA_a5 hA1, hA_n5 hA1, hA_c6 hA1, hA_r6_0 hA1, hA_r6_1 hA1, hA_g6_2 hA1, hA_a7 hA1, hA_n7 hA1, hA_a8 hA1, hA_n8 hA1, hA_a9 hA1, hA_n9 hA1, hA_a10 hA1, hA_n10 hA1, hA_a11 hA1, hA_n11 hA1, hA_a12 hA1, hA_n12 hA1, hA_a13 hA1, hA_n13 hA1, hA_a14 hA1, hA_n14 hA1, hA_a15 hA1, hA_n15 hA1, hA_a16 hA1, hA_n16 hA1, hA_a17 hA1, hA_n17 hA1, hA_a18 hA1, hA_n18 hA1, kV_th, kI_th, Nat.not_lt_zero]); rw [q142_1]; (try simp -implicitDefEqProofs (disch := omega) only [↓reduceIte, n154_0 hR hA hl W hn hm hk, hy, q5, q1, hg, r3, hA_s13 hA1 (show e.1 ≤ x + 26 by omega), hA_c0 hA, hA_r0_0 hA, hA_r0_1 hA, hA_r0_2 hA, hA_r0_3 hA, hA_r0_4 hA, hA_r0_5 hA, hA_r0_6 hA, hA_r0_7 hA, hA_r0_8 hA, hA_r0_9 hA, hA_r0_10 hA, hA_r0_11 hA, hA_g0_12 hA, hA_g0_13 hA, hA_g0_14 hA, hA_g0_15 hA, hA_g0_16 hA, hA_c1 hA, hA_r1_0 hA, hA_r1_1 hA, hA_r1_2 hA, hA_r1_3 hA, hA_g1_4 hA, hA_a2 hA, hA_n2 hA, hA_a3 hA, hA_n3 hA, hA_a4 hA, hA_n4 hA, hA_a5 hA, hA_n5 hA, hA_c6 hA, hA_r6_0 hA, hA_r6_1 hA, hA_g6_2 hA, hA_a7 hA, hA_n7 hA, hA_a8 hA, hA_n8 hA, hA_a9 hA, hA_n9 hA, hA_a10 hA, hA_n10 hA, hA_a11 hA, hA_n11 hA, hA_a12 hA, hA_n12 hA, hA_a13 hA, hA_n13 hA, hA_a14 hA, hA_n14 hA, hA_a15 hA, hA_n15 hA, hA_a16 hA, hA_n16 hA, hA_a17 hA, hA_n17 hA, hA_a18 hA, hA_n18 hA, g1, hR_c0 hR2, hR_r0_0 hR2, hR_r0_1 hR2, hR_r0_2 hR2, hR_r0_3 hR2, hR_r0_4 hR2, hR_r0_5 hR2, hR_g0_6 hR2, bd_s, kI_r, kV_r, kL_r, rZ_1, rZ_0, rZ_b, rI_ite, bI_ite, ite_tf, ite_ft, bI0, bI1, bf_ite, nAdd, nMul, nLt, nEq, nEqM, nMEq, nMLt, nLtM, nMLt0, if_true, if_false, Nat.reduceAdd, Nat.reduceMul, Nat.zero_add, Nat.add_zero, decide_eq_true_eq, decide_true, decide_false, Nat.reduceEqDiff, Nat.reduceLT, Nat.reduceLeDiff, eq_self, Bool.false_eq_true, Bool.true_eq_false, Bool.not_eq_false', Bool.not_eq_true', ite_not, hR_c0 hR, hR_r0_0 hR, hR_r0_1 hR, hR_r0_2 hR, hR_r0_3 hR, hR_r0_4 hR, hR_r0_5 hR, hR_g0_6 hR, hR_c0 hR1, hR_r0_0 hR1, hR_r0_1 hR1, hR_r0_2 hR1, hR_r0_3 hR1, hR_r0_4 hR1, hR_r0_5 hR1, hR_g0_6 hR1, hA_c0 hA1, hA_r0_0 hA1, hA_r0_1 hA1, hA_r0_2 hA1, hA_r0_3 hA1, hA_r0_4 hA1, hA_r0_5 hA1, hA_r0_6 hA1, hA_r0_7 hA1, hA_r0_8 hA1, hA_r0_9 hA1, hA_r0_10 hA1, hA_r0_11 hA1, hA_g0_12 hA1, hA_g0_13 hA1, hA_g0_14 hA1, hA_g0_15 hA1, hA_g0_16 hA1, hA_c1 hA1, hA_r1_0 hA1, hA_r1_1 hA1, hA_r1_2 hA1, hA_r1_3 hA1, hA_g1_4 hA1, hA_a2 hA1, hA_n2 hA1, hA_a3 hA1, hA_n3 hA1, hA_a4 hA1, hA_n4 hA1, hA_a5 hA1, hA_n5 hA1, hA_c6 hA1, hA_r6_0 hA1, hA_r6_1 hA1, hA_g6_2 hA1, hA_a7 hA1, hA_n7 hA1, hA_a8 hA1, hA_n8 hA1, hA_a9 hA1, hA_n9 hA1, hA_a10 hA1, hA_n10 hA1, hA_a11 hA1, hA_n11 hA1, hA_a12 hA1, hA_n12 hA1, hA_a13 hA1, hA_n13 hA1, hA_a14 hA1, hA_n14 hA1, hA_a15 hA1, hA_n15 hA1, hA_a16 hA1, hA_n16 hA1, hA_a17 hA1, hA_n17 hA1, hA_a18 hA1, hA_n18 hA1, kV_th, kI_th, Nat.not_lt_zero])
theorem b141_0 (Z : hSys x R I H S Ar m) (K : HisOK H n c) (he : e.1 ≤ x) (hl : R.1 0 6 = Int32.ofNat 1) (W : OKA Y (Ar 0) h s) {k N : Nat} (hn : s 1 = Int32.ofNat N) (hm : N ≤ 24) (hk : k < N) {i j : Nat} (hi : i < nN (h 0)) (hj : j < nN (h 1)) (hg : gonB s k = false) (hb : boxOnS s (Int32.ofNat (i * nN (h 1) + j)) = nM1) : ∃ m2, dN e (d + 8) 141 [.ref x, .int (Int32.ofNat k), .int (Int32.ofNat i), .int (Int32.ofNat j)] m = rI (bx s k 4) m2 ∧ Chg x R I H S Ar n c (Y) h (lay s k 4 (Int32.ofNat (i * nN (h 1) + j))) m m2 := by
  have hR := Z.1
  have hA : hB TA 19 (x + 26) (Ar 0) m := Z.2.2.2.2 0 (by omega)
  obtain ⟨m1, B', g1, Z1, E, F⟩ := rem_sys (e := e) (d := d + 4) Z K he
  have hR1 := Z1.1
  have hA1 := z0_of Z1
  have hk2 : k < nbS s := by unfold nbS; rw [hn, nN_o (by omega)]; exact hk
  have q1 := k_dest (e := e) (a := x + 26) (d := d + 6) (m := m) W.z hk2
  rw [ov_self hA] at q1
  have hk24 : k < 24 := by omega
  have r4 := (W.box hk2).1.2.2.2.1
  have q2 := k_mark (e := e) (a := x + 26) (d := d + 6) (m := m) W.z (x := i) (y := j)
  have q3 := k_boxOn (e := e) (a := x + 26) (d := d + 6) (m := m) W.z (x := Int32.ofNat (i * nN (h 1) + j))
  rw [ov_self hA] at q2 q3
  have hq : i * nN (h 1) + j < mkN h := by
    have h1 : (i + 1) * nN (h 1) ≤ nN (h 0) * nN (h 1) := Nat.mul_le_mul_right _ hi
    rw [Nat.add_mul, Nat.one_mul] at h1
    unfold mkN
    omega
  have Z2 := OKA_move W hk2 hg hq
  have CC := chg_of Z1 E F Z2
  have hR2 : hB TR 1 x R (ov TA 19 (x + 26) (uA (Ar 0) 12 (wr ((Ar 0).1 12) k (Int32.ofNat (i * nN (h 1) + j)))) m1) := hB_other hR1 (by omega)
  refine ⟨_, ?_, CC⟩
  refine en141 (hR_c0 hR) fun t ht => ?_
  obtain ⟨u, rfl⟩ := fu 9 ht rfl
  rw [q141_0]; (try simp -implicitDefEqProofs (disch := omega) only [↓reduceIte, n154_0 hR hA hl W hn hm hk, n156_0 hR hA W hi hj, q2, q1, hg, q3, hb, r4, hA_s12 hA1 (show e.1 ≤ x + 26 by omega), hA_c0 hA, hA_r0_0 hA, hA_r0_1 hA, hA_r0_2 hA, hA_r0_3 hA, hA_r0_4 hA, hA_r0_5 hA, hA_r0_6 hA, hA_r0_7 hA, hA_r0_8 hA, hA_r0_9 hA, hA_r0_10 hA, hA_r0_11 hA, hA_g0_12 hA, hA_g0_13 hA, hA_g0_14 hA, hA_g0_15 hA, hA_g0_16 hA, hA_c1 hA, hA_r1_0 hA, hA_r1_1 hA, hA_r1_2 hA, hA_r1_3 hA, hA_g1_4 hA, hA_a2 hA, hA_n2 hA, hA_a3 hA, hA_n3 hA, hA_a4 hA, hA_n4 hA, hA_a5 hA, hA_n5 hA, hA_c6 hA, hA_r6_0 hA, hA_r6_1 hA, hA_g6_2 hA, hA_a7 hA, hA_n7 hA, hA_a8 hA, hA_n8 hA, hA_a9 hA, hA_n9 hA, hA_a10 hA, hA_n10 hA, hA_a11 hA, hA_n11 hA, hA_a12 hA, hA_n12 hA, hA_a13 hA, hA_n13 hA, hA_a14 hA, hA_n14 hA, hA_a15 hA, hA_n15 hA, hA_a16 hA, hA_n16 hA, hA_a17 hA, hA_n17 hA, hA_a18 hA, hA_n18 hA, g1, hR_c0 hR2, hR_r0_0 hR2, hR_r0_1 hR2, hR_r0_2 hR2, hR_r0_3 hR2, hR_r0_4 hR2, hR_r0_5 hR2, hR_g0_6 hR2, bd_s, kI_r, kV_r, kL_r, rZ_1, rZ_0, rZ_b, rI_ite, bI_ite, ite_tf, ite_ft, bI0, bI1, bf_ite, nAdd, nMul, nLt, nEq, nEqM, nMEq, nMLt, nLtM, nMLt0, if_true, if_false, Nat.reduceAdd, Nat.reduceMul, Nat.zero_add, Nat.add_zero, decide_eq_true_eq, decide_true, decide_false, Nat.reduceEqDiff, Nat.reduceLT, Nat.reduceLeDiff, eq_self, Bool.false_eq_true, Bool.true_eq_false, Bool.not_eq_false', Bool.not_eq_true', ite_not, hR_c0 hR, hR_r0_0 hR, hR_r0_1 hR, hR_r0_2 hR, hR_r0_3 hR, hR_r0_4 hR, hR_r0_5 hR, hR_g0_6 hR, hR_c0 hR1, hR_r0_0 hR1, hR_r0_1 hR1, hR_r0_2 hR1, hR_r0_3 hR1, hR_r0_4 hR1, hR_r0_5 hR1, hR_g0_6 hR1, hA_c0 hA1, hA_r0_0 hA1, hA_r0_1 hA1, hA_r0_2 hA1, hA_r0_3 hA1, hA_r0_4 hA1, hA_r0_5 hA1, hA_r0_6 hA1, hA_r0_7 hA1, hA_r0_8 hA1, hA_r0_9 hA1, hA_r0_10 hA1, hA_r0_11 hA1, hA_g0_12 hA1, hA_g0_13 hA1, hA_g0_14 hA1, hA_g0_15 hA1, hA_g0_16 hA1, hA_c1 hA1, hA_r1_0 hA1, hA_r1_1 hA1, hA_r1_2 hA1, hA_r1_3 hA1, hA_g1_4 hA1, hA_a2 hA1, hA_n2 hA1, hA_a3 hA1, hA_n3 hA1, hA_a4 hA1, hA_n4 hA1, hA_a5 hA1, hA_n5 hA1, hA_c6 hA1, hA_r6_0 hA1, hA_r6_1 hA1, hA_g6_2 hA1, hA_a7 hA1, hA_n7 hA1, hA_a8 hA1, hA_n8 hA1, hA_a9 hA1, hA_n9 hA1, hA_a10 hA1, hA_n10 hA1, hA_a11 hA1, hA_n11 hA1, hA_a12 hA1, hA_n12 hA1, hA_a13 hA1, hA_n13 hA1, hA_a14 hA1, hA_n14 hA1, hA_a15 hA1, hA_n15 hA1, hA_a16 hA1, hA_n16 hA1, hA_a17 hA1, hA_n17 hA1, hA_a18 hA1, hA_n18 hA1, kV_th, kI_th, Nat.not_lt_zero]); rw [q141_2]; (try simp -implicitDefEqProofs (disch := omega) only [↓reduceIte, n154_0 hR hA hl W hn hm hk, n156_0 hR hA W hi hj, q2, q1, hg, q3, hb, r4, hA_s12 hA1 (show e.1 ≤ x + 26 by omega), hA_c0 hA, hA_r0_0 hA, hA_r0_1 hA, hA_r0_2 hA, hA_r0_3 hA, hA_r0_4 hA, hA_r0_5 hA, hA_r0_6 hA, hA_r0_7 hA, hA_r0_8 hA, hA_r0_9 hA, hA_r0_10 hA, hA_r0_11 hA, hA_g0_12 hA, hA_g0_13 hA, hA_g0_14 hA, hA_g0_15 hA, hA_g0_16 hA, hA_c1 hA, hA_r1_0 hA, hA_r1_1 hA, hA_r1_2 hA, hA_r1_3 hA, hA_g1_4 hA, hA_a2 hA, hA_n2 hA, hA_a3 hA, hA_n3 hA, hA_a4 hA, hA_n4 hA, hA_a5 hA, hA_n5 hA, hA_c6 hA, hA_r6_0 hA, hA_r6_1 hA, hA_g6_2 hA, hA_a7 hA, hA_n7 hA, hA_a8 hA, hA_n8 hA, hA_a9 hA, hA_n9 hA, hA_a10 hA, hA_n10 hA, hA_a11 hA, hA_n11 hA, hA_a12 hA, hA_n12 hA, hA_a13 hA, hA_n13 hA, hA_a14 hA, hA_n14 hA, hA_a15 hA, hA_n15 hA, hA_a16 hA, hA_n16 hA, hA_a17 hA, hA_n17 hA, hA_a18 hA, hA_n18 hA, g1, hR_c0 hR2, hR_r0_0 hR2, hR_r0_1 hR2, hR_r0_2 hR2, hR_r0_3 hR2, hR_r0_4 hR2, hR_r0_5 hR2, hR_g0_6 hR2, bd_s, kI_r, kV_r, kL_r, rZ_1, rZ_0, rZ_b, rI_ite, bI_ite, ite_tf, ite_ft, bI0, bI1, bf_ite, nAdd, nMul, nLt, nEq, nEqM, nMEq, nMLt, nLtM, nMLt0, if_true, if_false, Nat.reduceAdd, Nat.reduceMul, Nat.zero_add, Nat.add_zero, decide_eq_true_eq, decide_true, decide_false, Nat.reduceEqDiff, Nat.reduceLT, Nat.reduceLeDiff, eq_self, Bool.false_eq_true, Bool.true_eq_false, Bool.not_eq_false', Bool.not_eq_true', ite_not, hR_c0 hR, hR_r0_0 hR, hR_r0_1 hR, hR_r0_2 hR, hR_r0_3 hR, hR_r0_4 hR, hR_r0_5 hR, hR_g0_6 hR, hR_c0 hR1, hR_r0_0 hR1, hR_r0_1 hR1, hR_r0_2 hR1, hR_r0_3 hR1, hR_r0_4 hR1, hR_r0_5 hR1, hR_g0_6 hR1, hA_c0 hA1, hA_r0_0 hA1, hA_r0_1 hA1, hA_r0_2 hA1, hA_r0_3 hA1, hA_r0_4 hA1, hA_r0_5 hA1, hA_r0_6 hA1, hA_r0_7 hA1, hA_r0_8 hA1, hA_r0_9 hA1, hA_r0_10 hA1, hA_r0_11 hA1, hA_g0_12 hA1, hA_g0_13 hA1, hA_g0_14 hA1, hA_g0_15 hA1, hA_g0_16 hA1, hA_c1 hA1, hA_r1_0 hA1, hA_r1_1 hA1, hA_r1_2 hA1, hA_r1_3 hA1, hA_g1_4 hA1, hA_a2 hA1, hA_n2 hA1, hA_a3 hA1, hA_n3 hA1, hA_a4 hA1, hA_n4 hA1, hA_a5 hA1, hA_n5 hA1, hA_c6 hA1, hA_r6_0 hA1, hA_r6_1 hA1, hA_g6_2 hA1, hA_a7 hA1, hA_n7 hA1, hA_a8 hA1, hA_n8 hA1, hA_a9 hA1, hA_n9 hA1, hA_a10 hA1, hA_n10 hA1, hA_a11 hA1, hA_n11 hA1, hA_a12 hA1, hA_n12 hA1, hA_a13 hA1, hA_n13 hA1, hA_a14 hA1, hA_n14 hA1, hA_a15 hA1, hA_n15 hA1, hA_a16 hA1, hA_n16 hA1, hA_a17 hA1, hA_n17 hA1, hA_a18 hA1, hA_n18 hA1, kV_th, kI_th, Nat.not_lt_zero])
end
end

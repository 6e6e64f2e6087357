/-! ===== the class's archive: destruction, strikes, new boxes, sums (printed by wip/whole/cls5.py) ===== -/
noncomputable section
section
variable {e : dEnv} {d a Y : Nat} {A : bX} {h s : sV} {m : dMem}
theorem OKA_nl0 (Z : OKA Y A h s) : OKA Y (uA A 0 (wr (A.1 0) 12 (Int32.ofNat 0))) h (wr s 2 (Int32.ofNat 0)) := by
  have e2 : nlS (wr s 2 (Int32.ofNat 0)) = 0 := by unfold nlS; rw [wr_s]; rfl
  refine OKA_head Z (WS_nl0 Z.2.1) (wr_n (by omega)) (fun k f _ _ => bx_wr (by omega)) (fun i h1 h2 => uA_n (by omega)) rfl ?_ ?_ ?_ ?_ ?_ (fun i hi => by rw [e2] at hi; omega)
  · rw [uA_s, wr_s, wr_s]
  · rw [uA_s, wr_n (by omega)]
  · rw [uA_s, wr_n (by omega), wr_n (by omega)]; exact Z.yr
  · rw [uA_s, wr_n (by omega)]
  · rw [uA_s, wr_n (by omega)]
theorem k_apr (he : e.1 ≤ a) (Z : OKA Y A h s) : ∃ A', dN e (d + 3) 29 [.ref a] (ov TA 19 a A m) = rI (Int32.ofNat (aprN s h)) (ov TA 19 a A' m) ∧ OKA Y A' h (aprS s h) := by
  obtain ⟨l, hlb, hl0, hl1⟩ := Z.nl
  have hW := WS_apr Z.2.1
  rw [hl0] at hW
  unfold aprN aprS aprP
  rw [hl0]
  have key := lp_ex (c := 2) (n := l) (P := fun i (A : bX) => OKA Y A h (upF (aprF h) i (0, s)).2) (G := fun t i A => runL e (dN e (d + 2)) 29 t 1 [some (.ref a), some (.int (Int32.ofNat (upF (aprF h) i (0, s)).1)), some (.int (Int32.ofNat i)), none] [] (ov TA 19 a A m)) (r := fun A => rI (Int32.ofNat (upF (aprF h) l (0, s)).1) (ov TA 19 a (uA A 0 (wr (A.1 0) 12 (Int32.ofNat 0))) m)) ?_ ?_ A Z
  · obtain ⟨A', p, g⟩ := key
    refine ⟨_, ?_, OKA_nl0 p⟩
    refine en29 A_c0 fun t ht => ?_
    obtain ⟨u, rfl⟩ := fu 1 ht rfl
    rw [q29_0]
    exact g u (by omega)
  · intro i A1 hi Z1
    obtain ⟨i1, i2, i3⟩ := hW i (by omega)
    obtain ⟨w1, w2, -⟩ := Z.2.1.2.2.2.2.1 i (by omega)
    obtain ⟨c, c1, c2, -, c4⟩ := w1.ex
    obtain ⟨l', hlb', hl0', -⟩ := Z1.nl
    have e0 : ∀ t : sV, t 2 = s 2 → nlS t = nlS s := fun t q => by unfold nlS; rw [q]
    have e2 : l' = l := by rw [← hl0', e0 _ (i2 2 (by omega)), hl0]
    subst e2
    have e18 : A1.1 18 i = Int32.ofNat c := by rw [Z1.1.2.2.2.2.2 i (by omega), i2 _ (by omega), c1]
    have hcb : c < nbS (upF (aprF h) i (0, s)).2 := by
      have : nbS (upF (aprF h) i (0, s)).2 = nbS s := by unfold nbS; rw [i2 1 (by omega)]
      rw [this]
      omega
    have h23 := k_hin (e := e) (a := a) (d := d) (m := m) Z1.z hcb
    obtain ⟨⟨r0, r1, r2, r4, r3, r5, r6, r8, r9⟩, wb, hk24⟩ := Z1.box hcb
    have ev : nN ((upF (aprF h) i (0, s)).2 (3 + i)) = c := by rw [i2 _ (by omega), c1, nN_o (by omega)]
    have eF : upF (aprF h) (i + 1) (0, s) = if hinS (upF (aprF h) i (0, s)).2 h c = Int32.ofNat 0 then ((upF (aprF h) i (0, s)).1 + 1, endS (upF (aprF h) i (0, s)).2 c) else upF (aprF h) i (0, s) := by
      rw [upF_s]
      show (if hinS (upF (aprF h) i (0, s)).2 h (nN ((upF (aprF h) i (0, s)).2 (3 + i))) = Int32.ofNat 0 then _ else _) = _
      rw [ev]
    rw [eF]
    by_cases h0 : hinS (upF (aprF h) i (0, s)).2 h c = Int32.ofNat 0
    · rw [if_pos h0]
      refine ⟨uA (uA (uA A1 12 (wr (A1.1 12) c nM1)) 13 (wr (A1.1 13) c (Int32.ofNat 0))) 16 (wr (A1.1 16) c (Int32.ofNat 0)), ?_, fun t => ⟨t, by omega, ?_⟩⟩
      · refine OKA_box (k := c) Z1 (WS_end Z1.2.1) (fun j hj => end_lo hj) (by simp (disch := omega) only [uA_n]) (fun i h1 h2 => by simp (disch := omega) only [uA_n]) (by simp (disch := omega) only [uA_n]) rfl (fun k' hne i h1 h2 => by simp only [uA_r, wr_r, if_neg hne]; (repeat' split) <;> (try subst_vars) <;> rfl) (fun k' hne i hi => by simp (disch := omega) only [uA_n]) (fun k' f h1 h2 => end_n h2 (Or.inl h1)) (fun _ => ?_)
        unfold RB
        have o : ∀ f, f < 12 → f ≠ 3 → f ≠ 4 → f ≠ 7 → f ≠ 8 → bx (endS (upF (aprF h) i (0, s)).2 c) c f = bx (upF (aprF h) i (0, s)).2 c f := fun f h1 h2 h3 h4 h5 => end_n h1 (by omega)
        have o8 : bx (endS (upF (aprF h) i (0, s)).2 c) c 8 = Int32.ofNat 0 := by rw [end_bx (by omega), if_pos ⟨rfl, rfl⟩]
        have o3 : bx (endS (upF (aprF h) i (0, s)).2 c) c 3 = Int32.ofNat 0 := by rw [end_bx (by omega), if_neg (by omega), if_pos ⟨rfl, rfl⟩]
        have o4 : bx (endS (upF (aprF h) i (0, s)).2 c) c 4 = nM1 := by rw [end_bx (by omega), if_neg (by omega), if_neg (by omega), if_pos ⟨rfl, rfl⟩]
        rw [o 0 (by omega) (by omega) (by omega) (by omega) (by omega), o 1 (by omega) (by omega) (by omega) (by omega) (by omega), o 2 (by omega) (by omega) (by omega) (by omega) (by omega), o 5 (by omega) (by omega) (by omega) (by omega) (by omega), o 6 (by omega) (by omega) (by omega) (by omega) (by omega), o8, o3, o4]
        simp (disch := omega) only [uA_n, uA_s, wr_s]
        refine ⟨r0, r1, r2, trivial, trivial, r5, r6, trivial, fun i hi => ?_⟩
        rw [nN_o (by omega)] at hi
        omega
      · simp -implicitDefEqProofs (disch := omega) only [↓reduceIte, q29_1, q29_2, hlb', hi, e18, h23, h0, bd_s, kI_r, kV_r, kL_r, rZ_1, rZ_0, rZ_b, rI_ite, bI_ite, ite_tf, ite_ft, bI0, bI1, bf_ite, nAdd, nMul, nLt, nEq, nEqM, nMEq, nMLt, nLtM, nMLt0, if_true, if_false, Nat.reduceAdd, Nat.reduceMul, Nat.zero_add, Nat.add_zero, decide_eq_true_eq, decide_true, decide_false, Nat.reduceEqDiff, Nat.reduceLT, Nat.reduceLeDiff, eq_self, Bool.false_eq_true, Bool.true_eq_false, Bool.not_eq_false', Bool.not_eq_true', ite_not, A_r0_0, A_r0_1, A_r0_2, A_r0_3, A_r0_4, A_r0_5, A_r0_6, A_r0_7, A_r0_8, A_r0_9, A_r0_10, A_r0_11, A_g0_12, A_g0_13, A_g0_14, A_g0_15, A_g0_16, A_r1_1, A_r1_2, A_r1_3, A_g1_4, A_r6_1, A_g6_2, A_a3, A_a4, A_a5, A_a8, A_a9, A_a10, A_a11, A_a12, A_a13, A_a14, A_a15, A_a16, A_a17, A_a18, A_p0_12 he, A_p0_13 he, A_p0_14 he, A_s9 he, A_s10 he, A_s11 he, A_s12 he, A_s13 he, A_s14 he, A_s15 he, A_s16 he, A_s17 he, A_s18 he, uA_s, uA_n, uA_uA, wr_s]
    · rw [if_neg h0]
      refine ⟨A1, Z1, fun t => ⟨t, by omega, ?_⟩⟩
      simp -implicitDefEqProofs (disch := omega) only [↓reduceIte, q29_1, q29_2, hlb', hi, e18, h23, h0, bd_s, kI_r, kV_r, kL_r, rZ_1, rZ_0, rZ_b, rI_ite, bI_ite, ite_tf, ite_ft, bI0, bI1, bf_ite, nAdd, nMul, nLt, nEq, nEqM, nMEq, nMLt, nLtM, nMLt0, if_true, if_false, Nat.reduceAdd, Nat.reduceMul, Nat.zero_add, Nat.add_zero, decide_eq_true_eq, decide_true, decide_false, Nat.reduceEqDiff, Nat.reduceLT, Nat.reduceLeDiff, eq_self, Bool.false_eq_true, Bool.true_eq_false, Bool.not_eq_false', Bool.not_eq_true', ite_not, A_r0_0, A_r0_1, A_r0_2, A_r0_3, A_r0_4, A_r0_5, A_r0_6, A_r0_7, A_r0_8, A_r0_9, A_r0_10, A_r0_11, A_g0_12, A_g0_13, A_g0_14, A_g0_15, A_g0_16, A_r1_1, A_r1_2, A_r1_3, A_g1_4, A_r6_1, A_g6_2, A_a3, A_a4, A_a5, A_a8, A_a9, A_a10, A_a11, A_a12, A_a13, A_a14, A_a15, A_a16, A_a17, A_a18]
  · intro t A1 Z1
    obtain ⟨i1, i2, i3⟩ := hW l (by omega)
    obtain ⟨l', hlb', hl0', -⟩ := Z1.nl
    have e0 : ∀ t : sV, t 2 = s 2 → nlS t = nlS s := fun t q => by unfold nlS; rw [q]
    have e2 : l' = l := by rw [← hl0', e0 _ (i2 2 (by omega)), hl0]
    subst e2
    simp -implicitDefEqProofs (disch := omega) only [↓reduceIte, q29_1, q29_3, hlb', Nat.lt_irrefl, bd_s, kI_r, kV_r, kL_r, rZ_1, rZ_0, rZ_b, rI_ite, bI_ite, ite_tf, ite_ft, bI0, bI1, bf_ite, nAdd, nMul, nLt, nEq, nEqM, nMEq, nMLt, nLtM, nMLt0, if_true, if_false, Nat.reduceAdd, Nat.reduceMul, Nat.zero_add, Nat.add_zero, decide_eq_true_eq, decide_true, decide_false, Nat.reduceEqDiff, Nat.reduceLT, Nat.reduceLeDiff, eq_self, Bool.false_eq_true, Bool.true_eq_false, Bool.not_eq_false', Bool.not_eq_true', ite_not, A_r0_0, A_r0_1, A_r0_2, A_r0_3, A_r0_4, A_r0_5, A_r0_6, A_r0_7, A_r0_8, A_r0_9, A_r0_10, A_r0_11, A_g0_12, A_g0_13, A_g0_14, A_g0_15, A_g0_16, A_r1_1, A_r1_2, A_r1_3, A_g1_4, A_r6_1, A_g6_2, A_a3, A_a4, A_a5, A_a8, A_a9, A_a10, A_a11, A_a12, A_a13, A_a14, A_a15, A_a16, A_a17, A_a18, A_p0_12 he, A_p0_13 he, A_p0_14 he, A_s9 he, A_s10 he, A_s11 he, A_s12 he, A_s13 he, A_s14 he, A_s15 he, A_s16 he, A_s17 he, A_s18 he, uA_s, uA_n, uA_uA, wr_s]
theorem k_clear (he : e.1 ≤ a) (hY : Y + 100 ≤ 1000000) (Z : OKA Y A h s) : ∃ A', dN e (d + 4) 41 [.ref a] (ov TA 19 a A m) = some (.inl none, (ov TA 19 a A' m)) ∧ OKA (Y + 1) A' h (clrS s h) := by
  obtain ⟨A1, g1, Z1⟩ := k_pass (e := e) (a := a) (d := d) (m := m) he Z (n := 1) (by omega) hY
  obtain ⟨A2, g2, Z2⟩ := k_lists (e := e) (a := a) (d := d) (m := m) he Z1
  obtain ⟨A3, g3, Z3⟩ := k_apr (e := e) (a := a) (d := d) (m := m) he Z2
  refine ⟨A3, ?_, Z3⟩
  refine en41 A_c0 fun t ht => ?_
  obtain ⟨u, rfl⟩ := fu 9 ht rfl
  simp -implicitDefEqProofs (disch := omega) only [↓reduceIte, q41_0, g1, g2, g3, bd_s, kI_r, kV_r, kL_r, rZ_1, rZ_0, rZ_b, rI_ite, bI_ite, ite_tf, ite_ft, bI0, bI1, bf_ite, nAdd, nMul, nLt, nEq, nEqM, nMEq, nMLt, nLtM, nMLt0, if_true, if_false, Nat.reduceAdd, Nat.reduceMul, Nat.zero_add, Nat.add_zero, decide_eq_true_eq, decide_true, decide_false, Nat.reduceEqDiff, Nat.reduceLT, Nat.reduceLeDiff, eq_self, Bool.false_eq_true, Bool.true_eq_false, Bool.not_eq_false', Bool.not_eq_true', ite_not, A_r0_0, A_r0_1, A_r0_2, A_r0_3, A_r0_4, A_r0_5, A_r0_6, A_r0_7, A_r0_8, A_r0_9, A_r0_10, A_r0_11, A_g0_12, A_g0_13, A_g0_14, A_g0_15, A_g0_16, A_r1_1, A_r1_2, A_r1_3, A_g1_4, A_r6_1, A_g6_2, A_a3, A_a4, A_a5, A_a8, A_a9, A_a10, A_a11, A_a12, A_a13, A_a14, A_a15, A_a16, A_a17, A_a18]
theorem A_cp18 {sp dp k : Nat} (he : e.1 ≤ a) (hs : sp + k ≤ 24) (hd : dp + k ≤ 24) : aCp e (ov TA 19 a A m) (a + 18) (Int32.ofNat sp) (a + 18) (Int32.ofNat dp) (Int32.ofNat k) = some (ov TA 19 a (uA A 18 (dCp (A.1 18) (A.1 18) sp dp k)) m) :=
  ov_cp (i := 18) (kd := 0) (N := 24) (N' := 24) (by decide) he rfl rfl (Or.inl rfl) rfl (by decide) (by decide) (ov_at (i := 18) (by decide)) hs hd
theorem add0 (x : Int32) : x + Int32.ofNat 0 = x := Int32.add_zero x
theorem k_strike (he : e.1 ≤ a) (hY : Y ≤ 1000000) (Z : OKA Y A h s) {k p y : Nat} (hk : k < nbS s) (hp : fnd (nlS s) (fun i => decide (s (3 + i) = Int32.ofNat k)) = some p) (hy : y ≤ 20) : ∃ A', dN e (d + 2) 28 [.ref a, .int (Int32.ofNat k), .int (Int32.ofNat y)] (ov TA 19 a A m) = some (.inl none, (ov TA 19 a A' m)) ∧ OKA Y A' h (stkS s k (Int32.ofNat y)) := by
  obtain ⟨l, hlb, hl0, hl1⟩ := Z.nl
  obtain ⟨p1, p2, -⟩ := fnd_some hp
  have p2 := of_decide_eq_true p2
  have hpl : p < l := by omega
  obtain ⟨⟨r0, r1, r2, r4, r3, r5, r6, r8, r9⟩, wb, hk24⟩ := Z.box hk
  have W0 := WS_stk (y := 0) hY Z.2.1 Z.2.2 hk p1 p2 (by omega)
  have Wy := WS_stk (y := y) hY Z.2.1 Z.2.2 hk p1 p2 hy
  obtain ⟨g1, g2, g3, g4⟩ := stk_is (y := Int32.ofNat 0) Z.2.1 p1 p2
  obtain ⟨f1, f2, f3, f4⟩ := stk_is (y := Int32.ofNat y) Z.2.1 p1 p2
  have hpos : fI (nlS s) (fun i => decide (s (3 + i) = Int32.ofNat k)) = Int32.ofNat p := by unfold fI; rw [hp]; rfl
  have h27 := k_posOf (e := e) (a := a) (d := d) (m := m) Z (x := Int32.ofNat k)
  rw [hpos] at h27
  have Z1 : OKA Y (uA (uA A 0 (wr (A.1 0) 12 (Int32.ofNat (l - 1)))) 18 (dCp (A.1 18) (A.1 18) (p + 1) p (l - 1 - p))) h (stkS s k (Int32.ofNat 0)) := by
    have n2 : nlS (stkS s k (Int32.ofNat 0)) = l - 1 := by
      show nN (stkS s k (Int32.ofNat 0) 2) = _
      rw [g2, nN_o (by omega), hl0]
    refine OKA_head Z W0 (g1 1 (by omega)) (fun j f _ hf => ?_) (fun i h1 h2 => by rw [uA_n (by omega), uA_n (by omega)]) rfl ?_ ?_ ?_ ?_ ?_ (fun i hi => ?_)
    · rw [g4 j f hf]
      by_cases q : j = k ∧ f = 2
      · rw [if_pos q, add0, q.1, q.2]
      · rw [if_neg q]
    · rw [uA_n (by omega), uA_s, wr_s, g2, hl0]
    · rw [uA_n (by omega), uA_s, wr_n (by omega)]
    · rw [uA_n (by omega), uA_s, wr_n (by omega), g1 0 (by omega)]; exact Z.yr
    · rw [uA_n (by omega), uA_s, wr_n (by omega)]
    · rw [uA_n (by omega), uA_s, wr_n (by omega)]
    · rw [n2] at hi
      rw [uA_s, g3 i (by omega)]
      unfold dCp
      by_cases q : i < p
      · rw [if_neg (by omega), if_pos q]
        exact Z.1.2.2.2.2.2 i (by omega)
      · rw [if_pos (by omega), if_neg q, show p + 1 + (i - p) = i + 1 by omega]
        exact Z.1.2.2.2.2.2 (i + 1) (by omega)
  refine ⟨uA (uA (uA A 0 (wr (A.1 0) 12 (Int32.ofNat (l - 1)))) 11 (wr (A.1 11) k (bx s k 2 + Int32.ofNat y))) 18 (dCp (A.1 18) (A.1 18) (p + 1) p (l - 1 - p)), ?_, ?_⟩
  · refine en28 A_c0 fun t ht => ?_
    obtain ⟨u, rfl⟩ := fu 9 ht rfl
    simp -implicitDefEqProofs (disch := omega) only [↓reduceIte, q28_0, q28_1, h27, hlb, nSub, A_cp18 he, r2, uA_comm, bd_s, kI_r, kV_r, kL_r, rZ_1, rZ_0, rZ_b, rI_ite, bI_ite, ite_tf, ite_ft, bI0, bI1, bf_ite, nAdd, nMul, nLt, nEq, nEqM, nMEq, nMLt, nLtM, nMLt0, if_true, if_false, Nat.reduceAdd, Nat.reduceMul, Nat.zero_add, Nat.add_zero, decide_eq_true_eq, decide_true, decide_false, Nat.reduceEqDiff, Nat.reduceLT, Nat.reduceLeDiff, eq_self, Bool.false_eq_true, Bool.true_eq_false, Bool.not_eq_false', Bool.not_eq_true', ite_not, A_r0_0, A_r0_1, A_r0_2, A_r0_3, A_r0_4, A_r0_5, A_r0_6, A_r0_7, A_r0_8, A_r0_9, A_r0_10, A_r0_11, A_g0_12, A_g0_13, A_g0_14, A_g0_15, A_g0_16, A_r1_1, A_r1_2, A_r1_3, A_g1_4, A_r6_1, A_g6_2, A_a3, A_a4, A_a5, A_a8, A_a9, A_a10, A_a11, A_a12, A_a13, A_a14, A_a15, A_a16, A_a17, A_a18, A_p0_12 he, A_p0_13 he, A_p0_14 he, A_s9 he, A_s10 he, A_s11 he, A_s12 he, A_s13 he, A_s14 he, A_s15 he, A_s16 he, A_s17 he, A_s18 he, uA_s, uA_n, uA_uA, wr_s]
  · refine OKA_box (k := k) Z1 Wy (fun j hj => by unfold stkS; rw [lay_lo hj, lay_lo hj]) (by simp (disch := omega) only [uA_n]) (fun i h1 h2 => by simp (disch := omega) only [uA_n]) (by rw [uA_s, uA_s]) rfl (fun k' hne i h1 h2 => ?_) (fun k' hne i hi => by simp (disch := omega) only [uA_n]) (fun k' f h1 h2 => by rw [f4 k' f h2, g4 k' f h2, if_neg (by omega), if_neg (by omega)]) (fun _ => ?_)
    · by_cases q : i = 11
      · subst q
        simp (disch := omega) only [uA_n, uA_s, wr_n]
      · simp (disch := omega) only [uA_n]
    · have o : ∀ f, f < 12 → f ≠ 2 → bx (stkS s k (Int32.ofNat y)) k f = bx s k f := fun f hf h2 => by rw [f4 _ _ hf, if_neg (by omega)]
      have w3 := wb.2.2.2.2.2.2.1.2.2
      unfold RB
      rw [o 0 (by omega) (by omega), o 1 (by omega) (by omega), o 3 (by omega) (by omega), o 4 (by omega) (by omega), o 5 (by omega) (by omega), o 6 (by omega) (by omega), o 8 (by omega) (by omega), f4 k 2 (by omega), if_pos ⟨rfl, rfl⟩]
      simp (disch := omega) only [uA_n, uA_s, wr_s]
      refine ⟨r0, r1, trivial, r4, r3, r5, r6, r8, fun i hi => ?_⟩
      rw [o (9 + i) (by omega) (by omega)]
      exact r9 i hi
theorem e35 (he : e.1 ≤ a) {k : Nat} (hk : k < 24) : dN e (d + 1) 35 [.ref a, .int (Int32.ofNat k)] (ov TA 19 a A m) = some (.inl none, ov TA 19 a (uA (uA A 14 (wr (A.1 14) k nM1)) 15 (wr (A.1 15) k nM1)) m) := by
  refine en35 A_c0 fun t ht => ?_
  obtain ⟨u, rfl⟩ := fu 9 ht rfl
  simp -implicitDefEqProofs (disch := omega) only [↓reduceIte, q35_0, bd_s, kI_r, kV_r, kL_r, rZ_1, rZ_0, rZ_b, rI_ite, bI_ite, ite_tf, ite_ft, bI0, bI1, bf_ite, nAdd, nMul, nLt, nEq, nEqM, nMEq, nMLt, nLtM, nMLt0, if_true, if_false, Nat.reduceAdd, Nat.reduceMul, Nat.zero_add, Nat.add_zero, decide_eq_true_eq, decide_true, decide_false, Nat.reduceEqDiff, Nat.reduceLT, Nat.reduceLeDiff, eq_self, Bool.false_eq_true, Bool.true_eq_false, Bool.not_eq_false', Bool.not_eq_true', ite_not, A_r0_0, A_r0_1, A_r0_2, A_r0_3, A_r0_4, A_r0_5, A_r0_6, A_r0_7, A_r0_8, A_r0_9, A_r0_10, A_r0_11, A_g0_12, A_g0_13, A_g0_14, A_g0_15, A_g0_16, A_r1_1, A_r1_2, A_r1_3, A_g1_4, A_r6_1, A_g6_2, A_a3, A_a4, A_a5, A_a8, A_a9, A_a10, A_a11, A_a12, A_a13, A_a14, A_a15, A_a16, A_a17, A_a18, A_p0_12 he, A_p0_13 he, A_p0_14 he, A_s9 he, A_s10 he, A_s11 he, A_s12 he, A_s13 he, A_s14 he, A_s15 he, A_s16 he, A_s17 he, A_s18 he, uA_s, uA_n, uA_uA, wr_s]
theorem k_new (he : e.1 ≤ a) (hY : Y ≤ 1000000) (Z : OKA Y A h s) {c y q : Nat} (hn : nbS s < 24) (hc : c < nN (h 2)) (hc8 : c < 8) (hy : 1800 ≤ y) (hy2 : y ≤ nN (s 0)) (hq : q < mkN h) (hq2 : q ≤ 47) : ∃ A', dN e (d + 2) 11 [.ref a, .int (Int32.ofNat c), .int (Int32.ofNat y), .int (Int32.ofNat q)] (ov TA 19 a A m) = some (.inl none, (ov TA 19 a A' m)) ∧ OKA Y A' h (newS s (Int32.ofNat c) (Int32.ofNat y) (Int32.ofNat q)) := by
  obtain ⟨n, hb, hn0, -⟩ := Z.nb
  have Wn := WS_new Z.2.1 hn hc hc8 hy hy2 hY hq hq2
  rw [hn0] at hn
  have h35 := e35 (e := e) (a := a) (d := d) (m := m) (k := n) (A := uA (uA (uA (uA (uA (uA A 9 (wr (A.1 9) n (Int32.ofNat c))) 10 (wr (A.1 10) n (Int32.ofNat y))) 11 (wr (A.1 11) n (Int32.ofNat 0))) 12 (wr (A.1 12) n (Int32.ofNat q))) 13 (wr (A.1 13) n (Int32.ofNat 0))) 16 (wr (A.1 16) n (Int32.ofNat 0))) he hn
  refine ⟨uA (uA (uA (uA (uA (uA (uA (uA (uA A 0 (wr (A.1 0) 13 (Int32.ofNat (n + 1)))) 9 (wr (A.1 9) n (Int32.ofNat c))) 10 (wr (A.1 10) n (Int32.ofNat y))) 11 (wr (A.1 11) n (Int32.ofNat 0))) 12 (wr (A.1 12) n (Int32.ofNat q))) 13 (wr (A.1 13) n (Int32.ofNat 0))) 14 (wr (A.1 14) n nM1)) 15 (wr (A.1 15) n nM1)) 16 (wr (A.1 16) n (Int32.ofNat 0)), ?_, ?_⟩
  · refine en11 A_c0 fun t ht => ?_
    obtain ⟨u, rfl⟩ := fu 9 ht rfl
    simp -implicitDefEqProofs (disch := omega) only [↓reduceIte, q11_0, q11_1, hb, hn, h35, uA_comm, wr_n, bd_s, kI_r, kV_r, kL_r, rZ_1, rZ_0, rZ_b, rI_ite, bI_ite, ite_tf, ite_ft, bI0, bI1, bf_ite, nAdd, nMul, nLt, nEq, nEqM, nMEq, nMLt, nLtM, nMLt0, if_true, if_false, Nat.reduceAdd, Nat.reduceMul, Nat.zero_add, Nat.add_zero, decide_eq_true_eq, decide_true, decide_false, Nat.reduceEqDiff, Nat.reduceLT, Nat.reduceLeDiff, eq_self, Bool.false_eq_true, Bool.true_eq_false, Bool.not_eq_false', Bool.not_eq_true', ite_not, A_r0_0, A_r0_1, A_r0_2, A_r0_3, A_r0_4, A_r0_5, A_r0_6, A_r0_7, A_r0_8, A_r0_9, A_r0_10, A_r0_11, A_g0_12, A_g0_13, A_g0_14, A_g0_15, A_g0_16, A_r1_1, A_r1_2, A_r1_3, A_g1_4, A_r6_1, A_g6_2, A_a3, A_a4, A_a5, A_a8, A_a9, A_a10, A_a11, A_a12, A_a13, A_a14, A_a15, A_a16, A_a17, A_a18, A_p0_12 he, A_p0_13 he, A_p0_14 he, A_s9 he, A_s10 he, A_s11 he, A_s12 he, A_s13 he, A_s14 he, A_s15 he, A_s16 he, A_s17 he, A_s18 he, uA_s, uA_n, uA_uA, wr_s]
  · obtain ⟨⟨e1, e2, e3, e4, e5, e6⟩, W, H⟩ := Z
    have m1 : nbS (newS s (Int32.ofNat c) (Int32.ofNat y) (Int32.ofNat q)) = n + 1 := by
      show nN (newS s _ _ _ 1) = _
      rw [new_1, nN_o (by omega), hn0]
    have m2 : nlS (newS s (Int32.ofNat c) (Int32.ofNat y) (Int32.ofNat q)) = nlS s := by
      show nN (newS s _ _ _ 2) = nN (s 2)
      rw [new_lo (by omega) (by omega)]
    have hl24 : nlS s ≤ 24 := W.2.1.2.2
    refine ⟨⟨?_, ?_, ?_, ?_, fun k hk => ?_, fun i hi => ?_⟩, Wn, H⟩
    · rw [new_lo (by omega) (by omega)]
      simp (disch := omega) only [uA_n, uA_s, wr_n]
      exact e1
    · rw [new_1, hn0]
      simp (disch := omega) only [uA_n, uA_s, wr_s]
    · rw [new_lo (by omega) (by omega)]
      simp (disch := omega) only [uA_n, uA_s, wr_n]
      exact e3
    · exact RH_congr e4 (by simp (disch := omega) only [uA_n, uA_s, wr_n]) (by simp (disch := omega) only [uA_n, uA_s, wr_n]) (fun i h1 h2 => by simp (disch := omega) only [uA_n]) rfl
    · rw [m1] at hk
      by_cases z : k = n
      · subst z
        have en : ∀ f, f < 12 → bx (newS s (Int32.ofNat c) (Int32.ofNat y) (Int32.ofNat q)) k f = (if f = 5 then nM1 else if f = 4 then Int32.ofNat q else if f = 1 then Int32.ofNat y else if f = 0 then Int32.ofNat c else Int32.ofNat 0) := fun f hf => by rw [new_bx hf, if_pos hn0.symm]
        unfold RB
        rw [en 0 (by omega), en 1 (by omega), en 2 (by omega), en 3 (by omega), en 4 (by omega), en 5 (by omega), en 6 (by omega), en 8 (by omega)]
        simp (disch := omega) only [uA_n, uA_s, wr_s, Nat.reduceEqDiff, if_true, if_false, eq_self, true_and]
        intro i hi
        rw [nN_o (by omega)] at hi
        omega
      · have eo : ∀ f, f < 12 → bx (newS s (Int32.ofNat c) (Int32.ofNat y) (Int32.ofNat q)) k f = bx s k f := fun f hf => by rw [new_bx hf, if_neg (by omega)]
        refine RB_congr (e5 k (by omega)) (W.2.2.2.1 k (by omega)).2.2.2.2.2.2.1.2.2 (fun i h1 h2 => ?_) (fun i _ => by simp (disch := omega) only [uA_n]) eo
        simp only [uA_r, wr_r, if_neg z]
        (repeat' split) <;> (try subst_vars) <;> first | rfl | omega
    · rw [m2] at hi
      rw [new_lo (by omega) (by omega)]
      simp (disch := omega) only [uA_n]
      exact e6 i hi
end
end

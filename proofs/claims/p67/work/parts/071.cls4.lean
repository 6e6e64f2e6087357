/-! ===== the class's archive: its list (printed by wip/whole/cls4.py) ===== -/
noncomputable section
section
variable {e : dEnv} {d a Y : Nat} {A : bX} {h s : sV} {m : dMem}
theorem OK0_18 (Z : OK0 Y A h s) {g : sV} : OK0 Y (uA A 18 g) h s := by
  obtain ⟨⟨e2, e3, e4, e5⟩, W, H⟩ := Z
  refine ⟨⟨by rw [uA_n (by omega)]; exact e2, by rw [uA_n (by omega)]; exact e3, RH_congr e4 (by rw [uA_n (by omega)]) (by rw [uA_n (by omega)]) (fun i h1 h2 => uA_n (by omega)) rfl, fun k hk => ?_⟩, W, H⟩
  exact RB_congr (e5 k hk) (W.2.2.2.1 k hk).2.2.2.2.2.2.1.2.2 (fun i h1 h2 => by rw [uA_n (by omega)]) (fun i _ => by rw [uA_n (by omega)]) (fun _ _ => rfl)
theorem k_insert (he : e.1 ≤ a) (Z : OKA Y A h s) {k : Nat} (hk : k < nbS s) (hl : nlS s < 24) : ∃ (p : Nat) (g : sV), p ≤ nlS s ∧ (∀ j, j < p → g j = A.1 18 j) ∧ g p = Int32.ofNat k ∧ (∀ j, p ≤ j → j < nlS s → g (j + 1) = A.1 18 j) ∧ (∀ j, p ≤ j → j < nlS s → duI s h k < duI s h (lsN s j)) ∧ (p = 0 ∨ ¬ duI s h k < duI s h (lsN s (p - 1))) ∧
    dN e (d + 2) 26 [.ref a, .int (Int32.ofNat k)] (ov TA 19 a A m) = some (.inl none, ov TA 19 a (uA (uA A 18 g) 0 (wr (A.1 0) 12 (Int32.ofNat (nlS s + 1)))) m) := by
  obtain ⟨l, hb, hl0, hl1⟩ := Z.nl
  have hA : ∀ j, j < l → A.1 18 j = s (3 + j) := fun j hj => Z.1.2.2.2.2.2 j (by omega)
  have hW : ∀ j, j < l → okI 0 23 (s (3 + j)) ∧ nN (s (3 + j)) < nbS s := fun j hj => ⟨(Z.2.1.2.2.2.2.1 j (by omega)).1, (Z.2.1.2.2.2.2.1 j (by omega)).2.1⟩
  rw [hl0] at hl ⊢
  have key : ∀ (pos : Nat) (g : sV), pos ≤ l → (∀ j, j < pos → g j = A.1 18 j) → (∀ j, pos ≤ j → j < l → g (j + 1) = A.1 18 j) → (∀ j, pos ≤ j → j < l → duI s h k < duI s h (lsN s j)) → ∃ (p : Nat) (g' : sV), p ≤ l ∧ (∀ j, j < p → g' j = A.1 18 j) ∧ g' p = Int32.ofNat k ∧ (∀ j, p ≤ j → j < l → g' (j + 1) = A.1 18 j) ∧ (∀ j, p ≤ j → j < l → duI s h k < duI s h (lsN s j)) ∧ (p = 0 ∨ ¬ duI s h k < duI s h (lsN s (p - 1))) ∧
      ∀ t, pos + 5 ≤ t → runL e (dN e (d + 1)) 26 t 2 [some (.ref a), some (.int (Int32.ofNat k)), some (.int (Int32.ofNat pos))] [] (ov TA 19 a (uA A 18 g) m) = some (.inl none, ov TA 19 a (uA (uA A 18 g') 0 (wr (A.1 0) 12 (Int32.ofNat (l + 1)))) m) := by
    intro pos
    induction pos with
    | zero =>
      intro g h0 h1 h2 h3
      refine ⟨0, wr g 0 (Int32.ofNat k), h0, fun j hj => by omega, wr_s _ _ _, fun j hj1 hj2 => by rw [wr_n (by omega)]; exact h2 j hj1 hj2, h3, Or.inl rfl, fun t ht => ?_⟩
      obtain ⟨t, rfl⟩ : ∃ t', t = t' + 2 := ⟨t - 2, by omega⟩
      simp -implicitDefEqProofs (disch := omega) only [↓reduceIte, q26_2, q26_3, hb, Nat.lt_irrefl, bd_s, kI_r, kV_r, kL_r, rZ_1, rZ_0, rZ_b, rI_ite, bI_ite, ite_tf, ite_ft, bI0, bI1, bf_ite, nAdd, nMul, nLt, nEq, nEqM, nMEq, nMLt, nLtM, nMLt0, if_true, if_false, Nat.reduceAdd, Nat.reduceMul, Nat.zero_add, Nat.add_zero, decide_eq_true_eq, decide_true, decide_false, Nat.reduceEqDiff, Nat.reduceLT, Nat.reduceLeDiff, eq_self, Bool.false_eq_true, Bool.true_eq_false, Bool.not_eq_false', Bool.not_eq_true', ite_not, A_r0_0, A_r0_1, A_r0_2, A_r0_3, A_r0_4, A_r0_5, A_r0_6, A_r0_7, A_r0_8, A_r0_9, A_r0_10, A_r0_11, A_g0_12, A_g0_13, A_g0_14, A_g0_15, A_g0_16, A_r1_1, A_r1_2, A_r1_3, A_g1_4, A_r6_1, A_g6_2, A_a3, A_a4, A_a5, A_a8, A_a9, A_a10, A_a11, A_a12, A_a13, A_a14, A_a15, A_a16, A_a17, A_a18, A_p0_12 he, A_p0_13 he, A_p0_14 he, A_s9 he, A_s10 he, A_s11 he, A_s12 he, A_s13 he, A_s14 he, A_s15 he, A_s16 he, A_s17 he, A_s18 he, uA_s, uA_n, uA_uA, wr_s]
    | succ pos ih =>
      intro g h0 h1 h2 h3
      obtain ⟨w1, w2⟩ := hW pos (by omega)
      obtain ⟨v, v1, v2, -, v4⟩ := w1.ex
      have gp : g pos = Int32.ofNat v := by rw [h1 pos (by omega), hA pos (by omega), v1]
      have hv : v < nbS s := by omega
      have Z0 := OK0_18 (g := g) Z.z
      have d1 := k_due (e := e) (a := a) (d := d) (m := m) Z0 hv
      have d2 := k_due (e := e) (a := a) (d := d) (m := m) Z0 hk
      have lv : lsN s pos = v := v2
      have h0p : 0 < pos + 1 := by omega
      by_cases hc : dueS s h k < dueS s h v
      · obtain ⟨p, g', r1, r2, r3, r4, r5, r6, r7⟩ := ih (wr g (pos + 1) (g pos)) (by omega) (fun j hj => by rw [wr_n (by omega)]; exact h1 j (by omega)) (fun j hj1 hj2 => by
          by_cases q : j = pos
          · rw [q, wr_s]; exact h1 pos (by omega)
          · rw [wr_n (by omega)]; exact h2 j (by omega) hj2) (fun j hj1 hj2 => by
          by_cases q : j = pos
          · rw [q, lv]; rw [Int32.lt_iff_toInt_lt] at hc; exact hc
          · exact h3 j (by omega) hj2)
        refine ⟨p, g', r1, r2, r3, r4, r5, r6, fun t ht => ?_⟩
        obtain ⟨t, rfl⟩ : ∃ t', t = t' + 1 := ⟨t - 1, by omega⟩
        have r7 := r7 t (by omega)
        rw [gp] at r7
        simp -implicitDefEqProofs (disch := omega) only [↓reduceIte, h0p, q26_2, nSub, Nat.add_sub_cancel, gp, d1, d2, hc, nDec, bd_s, kI_r, kV_r, kL_r, rZ_1, rZ_0, rZ_b, rI_ite, bI_ite, ite_tf, ite_ft, bI0, bI1, bf_ite, nAdd, nMul, nLt, nEq, nEqM, nMEq, nMLt, nLtM, nMLt0, if_true, if_false, Nat.reduceAdd, Nat.reduceMul, Nat.zero_add, Nat.add_zero, decide_eq_true_eq, decide_true, decide_false, Nat.reduceEqDiff, Nat.reduceLT, Nat.reduceLeDiff, eq_self, Bool.false_eq_true, Bool.true_eq_false, Bool.not_eq_false', Bool.not_eq_true', ite_not, A_r0_0, A_r0_1, A_r0_2, A_r0_3, A_r0_4, A_r0_5, A_r0_6, A_r0_7, A_r0_8, A_r0_9, A_r0_10, A_r0_11, A_g0_12, A_g0_13, A_g0_14, A_g0_15, A_g0_16, A_r1_1, A_r1_2, A_r1_3, A_g1_4, A_r6_1, A_g6_2, A_a3, A_a4, A_a5, A_a8, A_a9, A_a10, A_a11, A_a12, A_a13, A_a14, A_a15, A_a16, A_a17, A_a18, A_p0_12 he, A_p0_13 he, A_p0_14 he, A_s9 he, A_s10 he, A_s11 he, A_s12 he, A_s13 he, A_s14 he, A_s15 he, A_s16 he, A_s17 he, A_s18 he, uA_s, uA_n, uA_uA, wr_s]
        exact r7
      · refine ⟨pos + 1, wr g (pos + 1) (Int32.ofNat k), h0, fun j hj => by rw [wr_n (by omega)]; exact h1 j hj, wr_s _ _ _, fun j hj1 hj2 => by rw [wr_n (by omega)]; exact h2 j hj1 hj2, h3, Or.inr ?_, fun t ht => ?_⟩
        · rw [Nat.add_sub_cancel, lv]
          rw [Int32.lt_iff_toInt_lt] at hc
          exact hc
        · obtain ⟨t, rfl⟩ : ∃ t', t = t' + 2 := ⟨t - 2, by omega⟩
          simp -implicitDefEqProofs (disch := omega) only [↓reduceIte, h0p, q26_2, q26_3, nSub, Nat.add_sub_cancel, gp, d1, d2, hc, hb, bd_s, kI_r, kV_r, kL_r, rZ_1, rZ_0, rZ_b, rI_ite, bI_ite, ite_tf, ite_ft, bI0, bI1, bf_ite, nAdd, nMul, nLt, nEq, nEqM, nMEq, nMLt, nLtM, nMLt0, if_true, if_false, Nat.reduceAdd, Nat.reduceMul, Nat.zero_add, Nat.add_zero, decide_eq_true_eq, decide_true, decide_false, Nat.reduceEqDiff, Nat.reduceLT, Nat.reduceLeDiff, eq_self, Bool.false_eq_true, Bool.true_eq_false, Bool.not_eq_false', Bool.not_eq_true', ite_not, A_r0_0, A_r0_1, A_r0_2, A_r0_3, A_r0_4, A_r0_5, A_r0_6, A_r0_7, A_r0_8, A_r0_9, A_r0_10, A_r0_11, A_g0_12, A_g0_13, A_g0_14, A_g0_15, A_g0_16, A_r1_1, A_r1_2, A_r1_3, A_g1_4, A_r6_1, A_g6_2, A_a3, A_a4, A_a5, A_a8, A_a9, A_a10, A_a11, A_a12, A_a13, A_a14, A_a15, A_a16, A_a17, A_a18, A_p0_12 he, A_p0_13 he, A_p0_14 he, A_s9 he, A_s10 he, A_s11 he, A_s12 he, A_s13 he, A_s14 he, A_s15 he, A_s16 he, A_s17 he, A_s18 he, uA_s, uA_n, uA_uA, wr_s]
  obtain ⟨p, g', r1, r2, r3, r4, r5, r6, r7⟩ := key l (A.1 18) (Nat.le_refl _) (fun _ _ => rfl) (fun j h1 h2 => by omega) (fun j h1 h2 => by omega)
  refine ⟨p, g', r1, r2, r3, r4, r5, r6, ?_⟩
  refine en26 A_c0 fun t ht => ?_
  obtain ⟨u, rfl⟩ := fu 2 ht rfl
  have r7 := r7 u (by omega)
  rw [uA_self] at r7
  simp -implicitDefEqProofs (disch := omega) only [↓reduceIte, q26_0, q26_1, hb, hl, bd_s, kI_r, kV_r, kL_r, rZ_1, rZ_0, rZ_b, rI_ite, bI_ite, ite_tf, ite_ft, bI0, bI1, bf_ite, nAdd, nMul, nLt, nEq, nEqM, nMEq, nMLt, nLtM, nMLt0, if_true, if_false, Nat.reduceAdd, Nat.reduceMul, Nat.zero_add, Nat.add_zero, decide_eq_true_eq, decide_true, decide_false, Nat.reduceEqDiff, Nat.reduceLT, Nat.reduceLeDiff, eq_self, Bool.false_eq_true, Bool.true_eq_false, Bool.not_eq_false', Bool.not_eq_true', ite_not, A_r0_0, A_r0_1, A_r0_2, A_r0_3, A_r0_4, A_r0_5, A_r0_6, A_r0_7, A_r0_8, A_r0_9, A_r0_10, A_r0_11, A_g0_12, A_g0_13, A_g0_14, A_g0_15, A_g0_16, A_r1_1, A_r1_2, A_r1_3, A_g1_4, A_r6_1, A_g6_2, A_a3, A_a4, A_a5, A_a8, A_a9, A_a10, A_a11, A_a12, A_a13, A_a14, A_a15, A_a16, A_a17, A_a18]
  exact r7
/-- the list is made: what the reference makes -/
theorem k_lists (he : e.1 ≤ a) (Z : OKA Y A h s) : ∃ A', dN e (d + 3) 25 [.ref a] (ov TA 19 a A m) = some (.inl none, (ov TA 19 a A' m)) ∧ OKA Y A' h (listsS s h) := by
  obtain ⟨n, hb, hn0, hn⟩ := Z.nb
  have W0 := WS_nl0 Z.2.1
  have e2 : nlS (wr s 2 (Int32.ofNat 0)) = 0 := by unfold nlS; rw [wr_s]; rfl
  have Z0 : OKA Y (uA A 0 (wr (A.1 0) 12 (Int32.ofNat 0))) h (wr s 2 (Int32.ofNat 0)) := by
    refine OKA_head Z W0 (wr_n (by omega)) (fun k f _ _ => bx_wr (by omega)) (fun i h1 h2 => uA_n (by omega)) rfl ?_ ?_ ?_ ?_ ?_ (fun i hi => by rw [e2] at hi; omega)
    · rw [uA_s, wr_s, wr_s]
    · rw [uA_s, wr_n (by omega)]
    · rw [uA_s, wr_n (by omega), wr_n (by omega)]; exact Z.yr
    · rw [uA_s, wr_n (by omega)]
    · rw [uA_s, wr_n (by omega)]
  have eb0 : ∀ k f, bx (wr s 2 (Int32.ofNat 0)) k f = bx s k f := fun k f => bx_wr (by omega)
  have key := lp_ex (c := 3) (n := n) (P := fun k (A : bX) => ∃ s', OKA Y A h s' ∧ s' 0 = s 0 ∧ s' 1 = s 1 ∧ (∀ j f, bx s' j f = bx s j f) ∧ isEn (mayB s h) (duI s h) k (lsN s') (nlS s')) (G := fun t k A => runL e (dN e (d + 2)) 25 t 1 [some (.ref a), some (.int (Int32.ofNat k)), none] [] (ov TA 19 a A m)) (r := fun A => some (.inl none, ov TA 19 a A m)) ?_ ?_ (uA A 0 (wr (A.1 0) 12 (Int32.ofNat 0))) ⟨_, Z0, wr_n (by omega), wr_n (by omega), eb0, by rw [e2]; exact ⟨rfl, fun i hi => by omega⟩⟩
  · obtain ⟨A', ⟨s', Z', g0, g1, gb, gE⟩, g⟩ := key
    refine ⟨A', ?_, ?_⟩
    · refine en25 A_c0 fun t ht => ?_
      obtain ⟨u, rfl⟩ := fu 1 ht rfl
      simp -implicitDefEqProofs (disch := omega) only [↓reduceIte, q25_0, bd_s, kI_r, kV_r, kL_r, rZ_1, rZ_0, rZ_b, rI_ite, bI_ite, ite_tf, ite_ft, bI0, bI1, bf_ite, nAdd, nMul, nLt, nEq, nEqM, nMEq, nMLt, nLtM, nMLt0, if_true, if_false, Nat.reduceAdd, Nat.reduceMul, Nat.zero_add, Nat.add_zero, decide_eq_true_eq, decide_true, decide_false, Nat.reduceEqDiff, Nat.reduceLT, Nat.reduceLeDiff, eq_self, Bool.false_eq_true, Bool.true_eq_false, Bool.not_eq_false', Bool.not_eq_true', ite_not, A_r0_0, A_r0_1, A_r0_2, A_r0_3, A_r0_4, A_r0_5, A_r0_6, A_r0_7, A_r0_8, A_r0_9, A_r0_10, A_r0_11, A_g0_12, A_g0_13, A_g0_14, A_g0_15, A_g0_16, A_r1_1, A_r1_2, A_r1_3, A_g1_4, A_r6_1, A_g6_2, A_a3, A_a4, A_a5, A_a8, A_a9, A_a10, A_a11, A_a12, A_a13, A_a14, A_a15, A_a16, A_a17, A_a18, A_p0_12 he, A_p0_13 he, A_p0_14 he, A_s9 he, A_s10 he, A_s11 he, A_s12 he, A_s13 he, A_s14 he, A_s15 he, A_s16 he, A_s17 he, A_s18 he, uA_s, uA_n, uA_uA, wr_s]
      exact g u (by omega)
    · obtain ⟨f1, f2, f3, f4⟩ := lists_en Z.2.1
      rw [hn0] at f1
      obtain ⟨q1, q2⟩ := isEn_uniq gE f1
      have W' := WS_lists Z.2.1
      have hn' : nbS s' = n := by unfold nbS; rw [g1]; exact hn0
      refine OKA_ext Z' W' (fun j hj => ?_) (fun i hi => ?_) (fun k f _ _ => (f4 k f).trans (gb k f).symm)
      · have : j = 0 ∨ j = 1 ∨ j = 2 := by omega
        rcases this with z | z | z
        · rw [z, f2, g0]
        · rw [z, f3, g1]
        · rw [z, W'.2.1.1, Z'.2.1.2.1.1]
          unfold nlS at q1
          rw [q1]
      · have := q2 i hi
        rw [(W'.2.2.2.2.1 i (by omega)).1.1, (Z'.2.1.2.2.2.2.1 i hi).1.1]
        unfold lsN at this
        rw [this]
  · intro k A1 hk ⟨s', Z1, g0, g1, gb, gE⟩
    have hn' : nbS s' = n := by unfold nbS; rw [g1]; exact hn0
    obtain ⟨n', hb', hn2, -⟩ := Z1.nb
    rw [hn'] at hn2
    subst hn2
    have hk1 : k < nbS s' := by omega
    have hin : hinS s' h k = hinS s h k := hin_congr g0 (fun f _ => gb k f)
    have hdu : ∀ j, duI s' h j = duI s h j := fun j => by unfold duI; rw [due_congr (gb j 0) (gb j 1) (gb j 2)]
    have h23 := k_hin (e := e) (a := a) (d := d) (m := m) Z1.z hk1
    rw [hin] at h23
    cases hm : mayB s h k with
    | false =>
      have hm0 : ¬ hinS s h k = Int32.ofNat 0 ∧ ¬ hinS s h k = Int32.ofNat 5 := by
        unfold mayB at hm
        simpa using hm
      refine ⟨A1, ⟨s', Z1, g0, g1, gb, isEn_skip gE hm⟩, fun t => ⟨t + 1, by omega, ?_⟩⟩
      have e3 : t + 3 = (t + 1) + 2 := by omega
      rw [e3]
      generalize t + 1 = v
      simp -implicitDefEqProofs (disch := omega) only [↓reduceIte, q25_1, q25_3, hb', hk, h23, hm0, bd_s, kI_r, kV_r, kL_r, rZ_1, rZ_0, rZ_b, rI_ite, bI_ite, ite_tf, ite_ft, bI0, bI1, bf_ite, nAdd, nMul, nLt, nEq, nEqM, nMEq, nMLt, nLtM, nMLt0, if_true, if_false, Nat.reduceAdd, Nat.reduceMul, Nat.zero_add, Nat.add_zero, decide_eq_true_eq, decide_true, decide_false, Nat.reduceEqDiff, Nat.reduceLT, Nat.reduceLeDiff, eq_self, Bool.false_eq_true, Bool.true_eq_false, Bool.not_eq_false', Bool.not_eq_true', ite_not, A_r0_0, A_r0_1, A_r0_2, A_r0_3, A_r0_4, A_r0_5, A_r0_6, A_r0_7, A_r0_8, A_r0_9, A_r0_10, A_r0_11, A_g0_12, A_g0_13, A_g0_14, A_g0_15, A_g0_16, A_r1_1, A_r1_2, A_r1_3, A_g1_4, A_r6_1, A_g6_2, A_a3, A_a4, A_a5, A_a8, A_a9, A_a10, A_a11, A_a12, A_a13, A_a14, A_a15, A_a16, A_a17, A_a18]
    | true =>
      have hm0 : hinS s h k = Int32.ofNat 0 ∨ hinS s h k = Int32.ofNat 5 := by
        unfold mayB at hm
        simpa using hm
      have hl24 : nlS s' < 24 := by
        have h1 := cnt_le (mayB s h) k
        rw [← gE.1] at h1
        omega
      obtain ⟨p, g, r1, r2, r3, r4, r5, r6, r7⟩ := k_insert (d := d) (m := m) he Z1 hk1 hl24
      obtain ⟨l, hlb, hl0, hl1⟩ := Z1.nl
      -- the row with the box put in
      have hA : ∀ j, j < nlS s' → A1.1 18 j = s' (3 + j) := fun j hj => Z1.1.2.2.2.2.2 j hj
      have hA2 : ∀ j, j < nlS s' → A1.1 18 j = Int32.ofNat (lsN s' j) := fun j hj => by rw [hA j hj]; exact (Z1.2.1.2.2.2.2.1 j hj).1.1
      obtain ⟨s2, q2, q0, q3, qb⟩ : ∃ s2 : sV, s2 2 = Int32.ofNat (nlS s' + 1) ∧ (∀ j, j < 2 → s2 j = s' j) ∧ (∀ i, i < 24 → s2 (3 + i) = g i) ∧ ∀ j f, bx s2 j f = bx s' j f := by
        refine ⟨fun j => if j = 2 then Int32.ofNat (nlS s' + 1) else if 3 ≤ j ∧ j < 27 then g (j - 3) else s' j, if_pos rfl, fun j hj => ?_, fun i hi => ?_, fun j f => ?_⟩
        · show (if j = 2 then _ else if 3 ≤ j ∧ j < 27 then g (j - 3) else s' j) = _
          rw [if_neg (by omega), if_neg (by omega)]
        · show (if 3 + i = 2 then _ else if 3 ≤ 3 + i ∧ 3 + i < 27 then g (3 + i - 3) else s' (3 + i)) = _
          rw [if_neg (by omega), if_pos (by omega), Nat.add_sub_cancel_left]
        · show (if 27 + 12 * j + f = 2 then _ else if 3 ≤ 27 + 12 * j + f ∧ 27 + 12 * j + f < 27 then _ else s' (27 + 12 * j + f)) = _
          rw [if_neg (by omega), if_neg (by omega)]
          rfl
      have n2 : nlS s2 = nlS s' + 1 := by
        show nN (s2 2) = _
        rw [q2, nN_o (by omega)]
      have L1 : ∀ j, j < p → lsN s2 j = lsN s' j := fun j hj => by
        show nN (s2 (3 + j)) = _
        rw [q3 j (by omega), r2 j hj, hA j (by omega)]
        rfl
      have L2 : lsN s2 p = k := by
        show nN (s2 (3 + p)) = _
        rw [q3 p (by omega), r3, nN_o (by omega)]
      have L3 : ∀ j, p ≤ j → j < nlS s' → lsN s2 (j + 1) = lsN s' j := fun j h1 h2 => by
        show nN (s2 (3 + (j + 1))) = _
        rw [q3 (j + 1) (by omega), r4 j h1 h2, hA j h2]
        rfl
      have gE2 : isEn (mayB s h) (duI s h) (k + 1) (lsN s2) (nlS s2) := by
        rw [n2]
        refine isEn_ins gE hm r1 (fun j h1 h2 => ?_) ?_ L1 L2 L3
        · rw [← hdu k, ← hdu (lsN s' j)]; exact r5 j h1 h2
        · rw [← hdu k, ← hdu (lsN s' (p - 1))]; exact r6
      have hv : ∀ i, i < nlS s' + 1 → s2 (3 + i) = Int32.ofNat (lsN s2 i) := by
        intro i hi
        rcases Nat.lt_trichotomy i p with y | y | y
        · rw [q3 i (by omega), r2 i y, hA2 i (by omega), L1 i y]
        · rw [y, q3 p (by omega), r3, L2]
        · have := L3 (i - 1) (by omega) (by omega)
          rw [show i - 1 + 1 = i by omega] at this
          have r4 := r4 (i - 1) (by omega) (by omega)
          rw [show i - 1 + 1 = i by omega] at r4
          rw [q3 i (by omega), r4, hA2 (i - 1) (by omega), this]
      have W2 : WS Y h s2 := by
        obtain ⟨a1, a2, a3, a4, a5, a6⟩ := Z1.2.1
        have m1 : nbS s2 = nbS s' := by unfold nbS; rw [q0 1 (by omega)]
        refine ⟨by rw [q0 1 (by omega)]; exact a1, by rw [q2]; exact okI_of (by omega) (by omega) (by omega), by rw [q0 0 (by omega)]; exact a3, fun j hj => ?_, fun i hi => ?_, fun i j hij hj => ?_⟩
        · rw [m1] at hj
          exact WB_same (a4 j hj) (q0 0 (by omega)) (fun f _ _ _ => qb j f)
        · obtain ⟨b1, b2, b3⟩ := gE2.2 i hi
          rw [n2] at hi
          have e := hv i hi
          rw [e, nN_o (by omega), m1, q0 0 (by omega), g0, due_congr ((qb _ 0).trans (gb _ 0)) ((qb _ 1).trans (gb _ 1)) ((qb _ 2).trans (gb _ 2))]
          exact ⟨okI_of (by omega) (by omega) (by omega), by omega, may_due b2⟩
        · obtain ⟨b1, b2, b3⟩ := gE2.2 i (by omega)
          obtain ⟨c1, c2, c3⟩ := gE2.2 j hj
          rw [n2] at hj
          rw [hv i (by omega), hv j hj]
          intro q
          rw [nEq (by omega) (by omega)] at q
          rw [q] at b3
          omega
      refine ⟨uA (uA A1 18 g) 0 (wr (A1.1 0) 12 (Int32.ofNat (nlS s' + 1))), ⟨s2, ?_, (q0 0 (by omega)).trans g0, (q0 1 (by omega)).trans g1, fun j f => (qb j f).trans (gb j f), gE2⟩, fun t => ⟨t, by omega, ?_⟩⟩
      · refine OKA_head Z1 W2 (q0 1 (by omega)) (fun j f _ _ => qb j f) (fun i h1 h2 => by rw [uA_n (by omega), uA_n (by omega)]) rfl ?_ ?_ ?_ ?_ ?_ (fun i hi => ?_)
        · rw [uA_s, wr_s, q2]
        · rw [uA_s, wr_n (by omega)]
        · rw [uA_s, wr_n (by omega), q0 0 (by omega)]; exact Z1.yr
        · rw [uA_s, wr_n (by omega)]
        · rw [uA_s, wr_n (by omega)]
        · rw [n2] at hi
          rw [uA_n (by omega), uA_s, q3 i (by omega)]
      · rcases hm0 with z | z
        · simp -implicitDefEqProofs (disch := omega) only [↓reduceIte, q25_1, q25_2, q25_3, hb', hk, h23, z, r7, bd_s, kI_r, kV_r, kL_r, rZ_1, rZ_0, rZ_b, rI_ite, bI_ite, ite_tf, ite_ft, bI0, bI1, bf_ite, nAdd, nMul, nLt, nEq, nEqM, nMEq, nMLt, nLtM, nMLt0, if_true, if_false, Nat.reduceAdd, Nat.reduceMul, Nat.zero_add, Nat.add_zero, decide_eq_true_eq, decide_true, decide_false, Nat.reduceEqDiff, Nat.reduceLT, Nat.reduceLeDiff, eq_self, Bool.false_eq_true, Bool.true_eq_false, Bool.not_eq_false', Bool.not_eq_true', ite_not, A_r0_0, A_r0_1, A_r0_2, A_r0_3, A_r0_4, A_r0_5, A_r0_6, A_r0_7, A_r0_8, A_r0_9, A_r0_10, A_r0_11, A_g0_12, A_g0_13, A_g0_14, A_g0_15, A_g0_16, A_r1_1, A_r1_2, A_r1_3, A_g1_4, A_r6_1, A_g6_2, A_a3, A_a4, A_a5, A_a8, A_a9, A_a10, A_a11, A_a12, A_a13, A_a14, A_a15, A_a16, A_a17, A_a18]
        · simp -implicitDefEqProofs (disch := omega) only [↓reduceIte, q25_1, q25_2, q25_3, hb', hk, h23, z, r7, bd_s, kI_r, kV_r, kL_r, rZ_1, rZ_0, rZ_b, rI_ite, bI_ite, ite_tf, ite_ft, bI0, bI1, bf_ite, nAdd, nMul, nLt, nEq, nEqM, nMEq, nMLt, nLtM, nMLt0, if_true, if_false, Nat.reduceAdd, Nat.reduceMul, Nat.zero_add, Nat.add_zero, decide_eq_true_eq, decide_true, decide_false, Nat.reduceEqDiff, Nat.reduceLT, Nat.reduceLeDiff, eq_self, Bool.false_eq_true, Bool.true_eq_false, Bool.not_eq_false', Bool.not_eq_true', ite_not, A_r0_0, A_r0_1, A_r0_2, A_r0_3, A_r0_4, A_r0_5, A_r0_6, A_r0_7, A_r0_8, A_r0_9, A_r0_10, A_r0_11, A_g0_12, A_g0_13, A_g0_14, A_g0_15, A_g0_16, A_r1_1, A_r1_2, A_r1_3, A_g1_4, A_r6_1, A_g6_2, A_a3, A_a4, A_a5, A_a8, A_a9, A_a10, A_a11, A_a12, A_a13, A_a14, A_a15, A_a16, A_a17, A_a18]
  · intro t A1 ⟨s', Z1, g0, g1, gb, gE⟩
    have hn' : nbS s' = n := by unfold nbS; rw [g1]; exact hn0
    obtain ⟨n', hb', hn2, -⟩ := Z1.nb
    rw [hn'] at hn2
    subst hn2
    simp -implicitDefEqProofs (disch := omega) only [↓reduceIte, q25_1, q25_4, hb', Nat.lt_irrefl, bd_s, kI_r, kV_r, kL_r, rZ_1, rZ_0, rZ_b, rI_ite, bI_ite, ite_tf, ite_ft, bI0, bI1, bf_ite, nAdd, nMul, nLt, nEq, nEqM, nMEq, nMLt, nLtM, nMLt0, if_true, if_false, Nat.reduceAdd, Nat.reduceMul, Nat.zero_add, Nat.add_zero, decide_eq_true_eq, decide_true, decide_false, Nat.reduceEqDiff, Nat.reduceLT, Nat.reduceLeDiff, eq_self, Bool.false_eq_true, Bool.true_eq_false, Bool.not_eq_false', Bool.not_eq_true', ite_not, A_r0_0, A_r0_1, A_r0_2, A_r0_3, A_r0_4, A_r0_5, A_r0_6, A_r0_7, A_r0_8, A_r0_9, A_r0_10, A_r0_11, A_g0_12, A_g0_13, A_g0_14, A_g0_15, A_g0_16, A_r1_1, A_r1_2, A_r1_3, A_g1_4, A_r6_1, A_g6_2, A_a3, A_a4, A_a5, A_a8, A_a9, A_a10, A_a11, A_a12, A_a13, A_a14, A_a15, A_a16, A_a17, A_a18]
end
end

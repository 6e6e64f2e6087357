/-! ===== the class's archive: years, requests, destruction (printed by wip/whole/cls3.py) ===== -/
noncomputable section
/-- a loop whose state is found as it goes -/
theorem lp_exC {α : Type} {G : Nat → Nat → α → Option dRes} {P : Nat → α → Prop} {c n : Nat} (h : ∀ k x, k < n → P k x → ∃ x', P (k + 1) x' ∧ ∀ t, ∃ t', t ≤ t' ∧ G (t + c) k x = G t' (k + 1) x') : ∀ s k x, k + s = n → P k x → ∃ x', P n x' ∧ ∀ t, c * s ≤ t → ∃ t', t ≤ t' + c * s ∧ G t k x = G t' n x' := by
  intro s
  induction s with
  | zero => intro k x hk hx; rw [Nat.add_zero] at hk; subst hk; exact ⟨x, hx, fun t _ => ⟨t, by omega, rfl⟩⟩
  | succ s ih =>
    intro k x hk hx
    obtain ⟨x1, p1, g1⟩ := h k x (by omega) hx
    obtain ⟨x2, p2, g2⟩ := ih (k + 1) x1 (by omega) p1
    refine ⟨x2, p2, fun t ht => ?_⟩
    rw [Nat.mul_succ] at ht ⊢
    obtain ⟨t1, q1, q2⟩ := g1 (t - c)
    obtain ⟨t2, q3, q4⟩ := g2 t1 (by omega)
    refine ⟨t2, by omega, ?_⟩
    have e1 : t = t - c + c := by omega
    rw [e1, q2, q4]
theorem lp_ex {α : Type} {G : Nat → Nat → α → Option dRes} {P : Nat → α → Prop} {c n : Nat} {r : α → Option dRes} (h : ∀ k x, k < n → P k x → ∃ x', P (k + 1) x' ∧ ∀ t, ∃ t', t ≤ t' ∧ G (t + c) k x = G t' (k + 1) x') (he : ∀ t x, P n x → G (t + c) n x = r x) (x : α) (hx : P 0 x) : ∃ x', P n x' ∧ ∀ t, c * (n + 1) ≤ t → G t 0 x = r x' := by
  obtain ⟨x', p, g⟩ := lp_exC h n 0 x (by omega) hx
  refine ⟨x', p, fun t ht => ?_⟩
  rw [Nat.mul_succ] at ht
  obtain ⟨t', h1, h2⟩ := g t (by omega)
  have e1 : t' = t' - c + c := by omega
  rw [h2, e1]
  exact he _ _ p
section
variable {e : dEnv} {d a Y : Nat} {A : bX} {h s : sV} {m : dMem}
theorem OKA_ext {s' : sV} (Z : OKA Y A h s) (W' : WS Y h s') (lo : ∀ j, j < 3 → s' j = s j) (hl : ∀ i, i < nlS s → s' (3 + i) = s (3 + i)) (hb : ∀ k f, k < nbS s → f < 12 → bx s' k f = bx s k f) : OKA Y A h s' := by
  obtain ⟨⟨e1, e2, e3, e4, e5, e6⟩, W, H⟩ := Z
  have n1 : nbS s' = nbS s := by unfold nbS; rw [lo 1 (by omega)]
  have n2 : nlS s' = nlS s := by unfold nlS; rw [lo 2 (by omega)]
  refine ⟨⟨by rw [lo 2 (by omega)]; exact e1, by rw [lo 1 (by omega)]; exact e2, by rw [lo 0 (by omega)]; exact e3, e4, fun k hk => ?_, fun i hi => ?_⟩, W', H⟩
  · rw [n1] at hk
    exact RB_congr (e5 k hk) (W.2.2.2.1 k hk).2.2.2.2.2.2.1.2.2 (fun _ _ _ => rfl) (fun _ _ => rfl) (fun f hf => hb k f hk hf)
  · rw [n2] at hi
    rw [hl i hi]
    exact e6 i hi
/-- a head row changes: year, number of the list -/
theorem OKA_head {Y' : Nat} {A' : bX} {s' : sV} (Z : OKA Y A h s) (W' : WS Y' h s') (h1 : s' 1 = s 1) (hb : ∀ k f, k < nbS s → f < 12 → bx s' k f = bx s k f) (hA : ∀ i, 1 ≤ i → i ≤ 17 → A'.1 i = A.1 i) (h2 : A'.2 = A.2) (g12 : A'.1 0 12 = s' 2) (g13 : A'.1 0 13 = A.1 0 13) (g14 : A'.1 0 14 = s' 0) (g15 : A'.1 0 15 = A.1 0 15) (g16 : A'.1 0 16 = A.1 0 16) (gl : ∀ i, i < nlS s' → A'.1 18 i = s' (3 + i)) : OKA Y' A' h s' := by
  obtain ⟨⟨e1, e2, e3, e4, e5, e6⟩, W, H⟩ := Z
  have n1 : nbS s' = nbS s := by unfold nbS; rw [h1]
  refine ⟨⟨g12, by rw [g13, h1]; exact e2, g14, RH_congr e4 g15 g16 (fun i q1 q2 => hA i q1 (by omega)) h2, fun k hk => ?_, gl⟩, W', H⟩
  rw [n1] at hk
  exact RB_congr (e5 k hk) (W.2.2.2.1 k hk).2.2.2.2.2.2.1.2.2 (fun i q1 q2 => by rw [hA i (by omega) (by omega)]) (fun i _ => by rw [hA 17 (by omega) (by omega)]) (fun f hf => hb k f hk hf)
theorem k_takeBack (he : e.1 ≤ a) (Z : OKA Y A h s) {k : Nat} (hk : k < nbS s) : ∃ A', dN e (d + 3) 36 [.ref a, .int (Int32.ofNat k)] (ov TA 19 a A m) = some (.inl none, (ov TA 19 a A' m)) ∧ OKA Y A' h (gbkS s h k) := by
  obtain ⟨A1, g1, Z1⟩ := k_endLoan (d := d + 1) (m := m) he Z hk
  have hk1 : k < nbS (lay s k 5 nM1) := by unfold nbS; rw [lay_lo (by omega)]; exact hk
  obtain ⟨A2, g2, Z2⟩ := k_serve (d := d) (m := m) he Z1 hk1
  refine ⟨A2, ?_, Z2⟩
  refine en36 A_c0 fun t ht => ?_
  obtain ⟨u, rfl⟩ := fu 9 ht rfl
  simp (disch := omega) only [q36_0, g1, g2, bd_s, kI_r, kV_r, kL_r, rZ_1, rZ_0, rZ_b, rI_ite, bI_ite, ite_tf, ite_ft, bI0, bI1, bf_ite, nAdd, nMul, nLt, nEq, nEqM, nMEq, nMLt, nLtM, nMLt0, if_true, if_false, Nat.reduceAdd, Nat.reduceMul, Nat.zero_add, Nat.add_zero, decide_eq_true_eq, decide_true, decide_false, Nat.reduceEqDiff, Nat.reduceLT, Nat.reduceLeDiff, eq_self, Bool.false_eq_true, Bool.true_eq_false, Bool.not_eq_false', Bool.not_eq_true', ite_not, A_r0_0, A_r0_1, A_r0_2, A_r0_3, A_r0_4, A_r0_5, A_r0_6, A_r0_7, A_r0_8, A_r0_9, A_r0_10, A_r0_11, A_g0_12, A_g0_13, A_g0_14, A_g0_15, A_g0_16, A_r1_1, A_r1_2, A_r1_3, A_g1_4, A_r6_1, A_g6_2, A_a3, A_a4, A_a5, A_a8, A_a9, A_a10, A_a11, A_a12, A_a13, A_a14, A_a15, A_a16, A_a17, A_a18]
theorem eols_nb {n : Nat} : nbS (upF eolF n s) = nbS s := by unfold nbS; rw [eols_lo (by omega)]
theorem srvs_nb {n : Nat} : nbS (upF (srvF h) n s) = nbS s := by unfold nbS; rw [srvs_lo (by omega)]
theorem k_eol (he : e.1 ≤ a) (Z : OKA Y A h s) : ∃ A', dN e (d + 2) 40 [.ref a] (ov TA 19 a A m) = some (.inl none, (ov TA 19 a A' m)) ∧ OKA Y A' h (upF eolF (nbS s) s) := by
  obtain ⟨n, hb, hn0, hn⟩ := Z.nb
  have hn0 : nbS s = n := hn0
  have key := lp_ex (c := 2) (n := n) (P := fun k (A : bX) => OKA Y A h (upF eolF k s)) (G := fun t k A => runL e (dN e (d + 1)) 40 t 1 [some (.ref a), some (.int (Int32.ofNat k))] [] (ov TA 19 a A m)) (r := fun A => some (.inl none, ov TA 19 a A m)) ?_ ?_ A Z
  · obtain ⟨A', p, g⟩ := key
    rw [hn0]
    refine ⟨A', ?_, p⟩
    refine en40 A_c0 fun t ht => ?_
    obtain ⟨u, rfl⟩ := fu 1 ht rfl
    rw [q40_0]
    exact g u (by omega)
  · intro k A1 hk Z1
    have hk1 : k < nbS (upF eolF k s) := by rw [eols_nb]; omega
    obtain ⟨n', hb', hn', -⟩ := Z1.nb
    rw [eols_nb, hn0] at hn'
    subst hn'
    obtain ⟨⟨r0, r1, r2, r4, r3, r5, r6, r8, r9⟩, wb, hk24⟩ := Z1.box hk1
    have hy := Z1.yr
    rw [upF_s]
    by_cases h5 : bx (upF eolF k s) k 5 = nM1
    · rw [eol_n h5]
      refine ⟨A1, Z1, fun t => ⟨t, by omega, ?_⟩⟩
      simp (disch := omega) only [q40_1, q40_2, hb', hk, k_lent Z1.z hk1, h5, bd_s, kI_r, kV_r, kL_r, rZ_1, rZ_0, rZ_b, rI_ite, bI_ite, ite_tf, ite_ft, bI0, bI1, bf_ite, nAdd, nMul, nLt, nEq, nEqM, nMEq, nMLt, nLtM, nMLt0, if_true, if_false, Nat.reduceAdd, Nat.reduceMul, Nat.zero_add, Nat.add_zero, decide_eq_true_eq, decide_true, decide_false, Nat.reduceEqDiff, Nat.reduceLT, Nat.reduceLeDiff, eq_self, Bool.false_eq_true, Bool.true_eq_false, Bool.not_eq_false', Bool.not_eq_true', ite_not, A_r0_0, A_r0_1, A_r0_2, A_r0_3, A_r0_4, A_r0_5, A_r0_6, A_r0_7, A_r0_8, A_r0_9, A_r0_10, A_r0_11, A_g0_12, A_g0_13, A_g0_14, A_g0_15, A_g0_16, A_r1_1, A_r1_2, A_r1_3, A_g1_4, A_r6_1, A_g6_2, A_a3, A_a4, A_a5, A_a8, A_a9, A_a10, A_a11, A_a12, A_a13, A_a14, A_a15, A_a16, A_a17, A_a18]
    · rw [if_neg h5] at r6
      by_cases h6 : upF eolF k s 0 - bx (upF eolF k s) k 6 < Int32.ofNat 2
      · rw [eol_n2 h6]
        refine ⟨A1, Z1, fun t => ⟨t, by omega, ?_⟩⟩
        simp (disch := omega) only [q40_1, q40_2, hb', hk, k_lent Z1.z hk1, h5, hy, r6, h6, bd_s, kI_r, kV_r, kL_r, rZ_1, rZ_0, rZ_b, rI_ite, bI_ite, ite_tf, ite_ft, bI0, bI1, bf_ite, nAdd, nMul, nLt, nEq, nEqM, nMEq, nMLt, nLtM, nMLt0, if_true, if_false, Nat.reduceAdd, Nat.reduceMul, Nat.zero_add, Nat.add_zero, decide_eq_true_eq, decide_true, decide_false, Nat.reduceEqDiff, Nat.reduceLT, Nat.reduceLeDiff, eq_self, Bool.false_eq_true, Bool.true_eq_false, Bool.not_eq_false', Bool.not_eq_true', ite_not, A_r0_0, A_r0_1, A_r0_2, A_r0_3, A_r0_4, A_r0_5, A_r0_6, A_r0_7, A_r0_8, A_r0_9, A_r0_10, A_r0_11, A_g0_12, A_g0_13, A_g0_14, A_g0_15, A_g0_16, A_r1_1, A_r1_2, A_r1_3, A_g1_4, A_r6_1, A_g6_2, A_a3, A_a4, A_a5, A_a8, A_a9, A_a10, A_a11, A_a12, A_a13, A_a14, A_a15, A_a16, A_a17, A_a18]
      · rw [eol_y h5 h6]
        obtain ⟨A2, g2, Z2⟩ := k_endLoan (d := d) (m := m) he Z1 hk1
        refine ⟨A2, Z2, fun t => ⟨t, by omega, ?_⟩⟩
        simp (disch := omega) only [q40_1, q40_2, hb', hk, k_lent Z1.z hk1, h5, hy, r6, h6, g2, bd_s, kI_r, kV_r, kL_r, rZ_1, rZ_0, rZ_b, rI_ite, bI_ite, ite_tf, ite_ft, bI0, bI1, bf_ite, nAdd, nMul, nLt, nEq, nEqM, nMEq, nMLt, nLtM, nMLt0, if_true, if_false, Nat.reduceAdd, Nat.reduceMul, Nat.zero_add, Nat.add_zero, decide_eq_true_eq, decide_true, decide_false, Nat.reduceEqDiff, Nat.reduceLT, Nat.reduceLeDiff, eq_self, Bool.false_eq_true, Bool.true_eq_false, Bool.not_eq_false', Bool.not_eq_true', ite_not, A_r0_0, A_r0_1, A_r0_2, A_r0_3, A_r0_4, A_r0_5, A_r0_6, A_r0_7, A_r0_8, A_r0_9, A_r0_10, A_r0_11, A_g0_12, A_g0_13, A_g0_14, A_g0_15, A_g0_16, A_r1_1, A_r1_2, A_r1_3, A_g1_4, A_r6_1, A_g6_2, A_a3, A_a4, A_a5, A_a8, A_a9, A_a10, A_a11, A_a12, A_a13, A_a14, A_a15, A_a16, A_a17, A_a18]
  · intro t A1 Z1
    obtain ⟨n', hb', hn', -⟩ := Z1.nb
    rw [eols_nb, hn0] at hn'
    subst hn'
    simp (disch := omega) only [q40_1, q40_3, hb', Nat.lt_irrefl, bd_s, kI_r, kV_r, kL_r, rZ_1, rZ_0, rZ_b, rI_ite, bI_ite, ite_tf, ite_ft, bI0, bI1, bf_ite, nAdd, nMul, nLt, nEq, nEqM, nMEq, nMLt, nLtM, nMLt0, if_true, if_false, Nat.reduceAdd, Nat.reduceMul, Nat.zero_add, Nat.add_zero, decide_eq_true_eq, decide_true, decide_false, Nat.reduceEqDiff, Nat.reduceLT, Nat.reduceLeDiff, eq_self, Bool.false_eq_true, Bool.true_eq_false, Bool.not_eq_false', Bool.not_eq_true', ite_not, A_r0_0, A_r0_1, A_r0_2, A_r0_3, A_r0_4, A_r0_5, A_r0_6, A_r0_7, A_r0_8, A_r0_9, A_r0_10, A_r0_11, A_g0_12, A_g0_13, A_g0_14, A_g0_15, A_g0_16, A_r1_1, A_r1_2, A_r1_3, A_g1_4, A_r6_1, A_g6_2, A_a3, A_a4, A_a5, A_a8, A_a9, A_a10, A_a11, A_a12, A_a13, A_a14, A_a15, A_a16, A_a17, A_a18]
theorem OKA_year (hY : Y ≤ 1000000) (Z : OKA Y A h s) : OKA (Y + 1) (uA A 0 (wr (A.1 0) 14 (s 0 + Int32.ofNat 1))) h (wr s 0 (s 0 + Int32.ofNat 1)) := by
  refine OKA_head Z (WS_year hY Z.2.1) (wr_n (by omega)) (fun k f _ _ => bx_wr (by omega)) (fun i h1 h2 => uA_n (by omega)) rfl ?_ ?_ ?_ ?_ ?_ (fun i hi => ?_)
  · rw [uA_s, wr_n (by omega), wr_n (by omega)]; exact Z.1.1
  · rw [uA_s, wr_n (by omega)]
  · rw [uA_s, wr_s, wr_s]
  · rw [uA_s, wr_n (by omega)]
  · rw [uA_s, wr_n (by omega)]
  · have e : nlS (wr s 0 (s 0 + Int32.ofNat 1)) = nlS s := by unfold nlS; rw [wr_n (by omega)]
    rw [e] at hi
    rw [uA_n (by omega), wr_n (by omega)]
    exact Z.1.2.2.2.2.2 i hi
theorem k_pass (he : e.1 ≤ a) (Z : OKA Y A h s) {n : Nat} (hn : n ≤ 100) (hY : Y + 100 ≤ 1000000) : ∃ A', dN e (d + 3) 39 [.ref a, .int (Int32.ofNat n)] (ov TA 19 a A m) = some (.inl none, (ov TA 19 a A' m)) ∧ OKA (Y + n) A' h (yrsS h n s) := by
  have key := lp_ex (c := 60) (n := n) (P := fun k (A : bX) => OKA (Y + k) A h (yrsS h k s)) (G := fun t k A => runL e (dN e (d + 2)) 39 t 1 [some (.ref a), some (.int (Int32.ofNat n)), some (.int (Int32.ofNat k)), none] [] (ov TA 19 a A m)) (r := fun A => some (.inl none, ov TA 19 a A m)) ?_ ?_ A Z
  · obtain ⟨A', p, g⟩ := key
    refine ⟨A', ?_, p⟩
    refine en39 A_c0 fun t ht => ?_
    obtain ⟨u, rfl⟩ := fu 1 ht rfl
    rw [q39_0]
    exact g u (by omega)
  · intro k A0 hk Z0
    have hy := Z0.yr
    have Z1 := OKA_year (by omega) Z0
    obtain ⟨A2, g2, Z2⟩ := k_eol (d := d) (m := m) he Z1
    have hnb : nbS (wr (yrsS h k s) 0 (yrsS h k s 0 + Int32.ofNat 1)) ≤ 24 := Z1.2.1.1.2.2
    obtain ⟨A3, Z3, g3⟩ := lp_exC (c := 1) (n := nbS (wr (yrsS h k s) 0 (yrsS h k s 0 + Int32.ofNat 1))) (P := fun j (A : bX) => OKA (Y + k + 1) A h (upF (srvF h) j (upF eolF (nbS (wr (yrsS h k s) 0 (yrsS h k s 0 + Int32.ofNat 1))) (wr (yrsS h k s) 0 (yrsS h k s 0 + Int32.ofNat 1))))) (G := fun t j A => runL e (dN e (d + 2)) 39 t 2 [some (.ref a), some (.int (Int32.ofNat n)), some (.int (Int32.ofNat k)), some (.int (Int32.ofNat j))] [] (ov TA 19 a A m)) (fun j A4 hj Z4 => by
      have hj1 : j < nbS (upF (srvF h) j (upF eolF (nbS (wr (yrsS h k s) 0 (yrsS h k s 0 + Int32.ofNat 1))) (wr (yrsS h k s) 0 (yrsS h k s 0 + Int32.ofNat 1)))) := by rw [srvs_nb, eols_nb]; exact hj
      obtain ⟨n', hb', hn', hn2⟩ := Z4.nb
      have hj2 : j < n' := by rw [← hn']; exact hj1
      obtain ⟨A5, g5, Z5⟩ := k_serve (d := d) (m := m) he Z4 hj1
      refine ⟨A5, Z5, fun t => ⟨t, Nat.le_refl _, ?_⟩⟩
      simp (disch := omega) only [q39_2, hb', hj2, g5, bd_s, kI_r, kV_r, kL_r, rZ_1, rZ_0, rZ_b, rI_ite, bI_ite, ite_tf, ite_ft, bI0, bI1, bf_ite, nAdd, nMul, nLt, nEq, nEqM, nMEq, nMLt, nLtM, nMLt0, if_true, if_false, Nat.reduceAdd, Nat.reduceMul, Nat.zero_add, Nat.add_zero, decide_eq_true_eq, decide_true, decide_false, Nat.reduceEqDiff, Nat.reduceLT, Nat.reduceLeDiff, eq_self, Bool.false_eq_true, Bool.true_eq_false, Bool.not_eq_false', Bool.not_eq_true', ite_not, A_r0_0, A_r0_1, A_r0_2, A_r0_3, A_r0_4, A_r0_5, A_r0_6, A_r0_7, A_r0_8, A_r0_9, A_r0_10, A_r0_11, A_g0_12, A_g0_13, A_g0_14, A_g0_15, A_g0_16, A_r1_1, A_r1_2, A_r1_3, A_g1_4, A_r6_1, A_g6_2, A_a3, A_a4, A_a5, A_a8, A_a9, A_a10, A_a11, A_a12, A_a13, A_a14, A_a15, A_a16, A_a17, A_a18]) _ 0 A2 (Nat.zero_add _) Z2
    refine ⟨A3, Z3, fun t => ?_⟩
    obtain ⟨t', q1, q2⟩ := g3 (t + 59) (by omega)
    obtain ⟨v, rfl⟩ : ∃ v, t' = v + 2 := ⟨t' - 2, by omega⟩
    refine ⟨v, by omega, ?_⟩
    obtain ⟨n', hb', hn', hn2⟩ := Z3.nb
    rw [srvs_nb, eols_nb] at hn'
    rw [hn'] at q2
    simp (disch := omega) only [q39_1, hk, hy, g2, bd_s, kI_r, kV_r, kL_r, rZ_1, rZ_0, rZ_b, rI_ite, bI_ite, ite_tf, ite_ft, bI0, bI1, bf_ite, nAdd, nMul, nLt, nEq, nEqM, nMEq, nMLt, nLtM, nMLt0, if_true, if_false, Nat.reduceAdd, Nat.reduceMul, Nat.zero_add, Nat.add_zero, decide_eq_true_eq, decide_true, decide_false, Nat.reduceEqDiff, Nat.reduceLT, Nat.reduceLeDiff, eq_self, Bool.false_eq_true, Bool.true_eq_false, Bool.not_eq_false', Bool.not_eq_true', ite_not, A_r0_0, A_r0_1, A_r0_2, A_r0_3, A_r0_4, A_r0_5, A_r0_6, A_r0_7, A_r0_8, A_r0_9, A_r0_10, A_r0_11, A_g0_12, A_g0_13, A_g0_14, A_g0_15, A_g0_16, A_r1_1, A_r1_2, A_r1_3, A_g1_4, A_r6_1, A_g6_2, A_a3, A_a4, A_a5, A_a8, A_a9, A_a10, A_a11, A_a12, A_a13, A_a14, A_a15, A_a16, A_a17, A_a18, A_p0_12 he, A_p0_13 he, A_p0_14 he, A_s9 he, A_s10 he, A_s11 he, A_s12 he, A_s13 he, A_s14 he, A_s15 he, A_s16 he, A_s17 he, A_s18 he, uA_s, uA_n, uA_uA, wr_s]
    refine q2.trans ?_
    simp (disch := omega) only [q39_2, q39_3, hb', Nat.lt_irrefl, bd_s, kI_r, kV_r, kL_r, rZ_1, rZ_0, rZ_b, rI_ite, bI_ite, ite_tf, ite_ft, bI0, bI1, bf_ite, nAdd, nMul, nLt, nEq, nEqM, nMEq, nMLt, nLtM, nMLt0, if_true, if_false, Nat.reduceAdd, Nat.reduceMul, Nat.zero_add, Nat.add_zero, decide_eq_true_eq, decide_true, decide_false, Nat.reduceEqDiff, Nat.reduceLT, Nat.reduceLeDiff, eq_self, Bool.false_eq_true, Bool.true_eq_false, Bool.not_eq_false', Bool.not_eq_true', ite_not, A_r0_0, A_r0_1, A_r0_2, A_r0_3, A_r0_4, A_r0_5, A_r0_6, A_r0_7, A_r0_8, A_r0_9, A_r0_10, A_r0_11, A_g0_12, A_g0_13, A_g0_14, A_g0_15, A_g0_16, A_r1_1, A_r1_2, A_r1_3, A_g1_4, A_r6_1, A_g6_2, A_a3, A_a4, A_a5, A_a8, A_a9, A_a10, A_a11, A_a12, A_a13, A_a14, A_a15, A_a16, A_a17, A_a18]
  · intro t A1 Z1
    simp (disch := omega) only [q39_1, q39_4, Nat.lt_irrefl, bd_s, kI_r, kV_r, kL_r, rZ_1, rZ_0, rZ_b, rI_ite, bI_ite, ite_tf, ite_ft, bI0, bI1, bf_ite, nAdd, nMul, nLt, nEq, nEqM, nMEq, nMLt, nLtM, nMLt0, if_true, if_false, Nat.reduceAdd, Nat.reduceMul, Nat.zero_add, Nat.add_zero, decide_eq_true_eq, decide_true, decide_false, Nat.reduceEqDiff, Nat.reduceLT, Nat.reduceLeDiff, eq_self, Bool.false_eq_true, Bool.true_eq_false, Bool.not_eq_false', Bool.not_eq_true', ite_not, A_r0_0, A_r0_1, A_r0_2, A_r0_3, A_r0_4, A_r0_5, A_r0_6, A_r0_7, A_r0_8, A_r0_9, A_r0_10, A_r0_11, A_g0_12, A_g0_13, A_g0_14, A_g0_15, A_g0_16, A_r1_1, A_r1_2, A_r1_3, A_g1_4, A_r6_1, A_g6_2, A_a3, A_a4, A_a5, A_a8, A_a9, A_a10, A_a11, A_a12, A_a13, A_a14, A_a15, A_a16, A_a17, A_a18]
theorem OKA.lim (Z : OKA Y A h s) {x : Int32} (hx : okI 0 5 x ∧ nN x < nN (h 3)) : ∃ r, x = Int32.ofNat r ∧ nN x = r ∧ r < 6 ∧ A.1 8 r = h (40 + r) := by
  obtain ⟨r, r1, r2, -, r4⟩ := hx.1.ex
  exact ⟨r, r1, r2, by omega, (Z.1.2.2.2.1.2.2.2.2.2 r (by omega)).1⟩
theorem k_req (he : e.1 ≤ a) (Z : OKA Y A h s) {x : Int32} {k : Nat} (hk : k < nbS s) (hx : okI 0 5 x ∧ nN x < nN (h 3)) (hw : nN (bx s k 8) < 3 ∨ reqB s h x k = true) : ∃ A', dN e (d + 2) 33 [.ref a, .int x, .int (Int32.ofNat k)] (ov TA 19 a A m) = some (.inl none, (ov TA 19 a A' m)) ∧ OKA Y A' h (reqS s h x k) := by
  obtain ⟨⟨r0, r1, r2, r4, r3, r5, r6, r8, r9⟩, wb, hk24⟩ := Z.box hk
  obtain ⟨w, w1, w2, -, w4⟩ := wb.2.2.2.2.2.2.1.ex
  obtain ⟨r, q1, q2, q3, q4⟩ := Z.lim hx
  have hm : mayH s h x = decide (Int32.ofNat (lonN s x) < h (40 + r)) := by unfold mayH; rw [q2]
  unfold reqS
  cases hr : reqB s h x k with
  | true =>
    obtain ⟨h5, h6⟩ : bx s k 5 = nM1 ∧ mayH s h x = true := by
      unfold reqB at hr
      simpa using hr
    rw [hm] at h6
    have h6 := of_decide_eq_true h6
    obtain ⟨A1, g1, Z1⟩ := k_lend (d := d) (m := m) he Z hk hx
    refine ⟨A1, ?_, Z1⟩
    refine en33 A_c0 fun t ht => ?_
    obtain ⟨u, rfl⟩ := fu 9 ht rfl
    subst q1
    simp (disch := omega) only [q33_0, q33_2, k_lent Z.z hk, h5, k_held Z.z, q4, h6, g1, bd_s, kI_r, kV_r, kL_r, rZ_1, rZ_0, rZ_b, rI_ite, bI_ite, ite_tf, ite_ft, bI0, bI1, bf_ite, nAdd, nMul, nLt, nEq, nEqM, nMEq, nMLt, nLtM, nMLt0, if_true, if_false, Nat.reduceAdd, Nat.reduceMul, Nat.zero_add, Nat.add_zero, decide_eq_true_eq, decide_true, decide_false, Nat.reduceEqDiff, Nat.reduceLT, Nat.reduceLeDiff, eq_self, Bool.false_eq_true, Bool.true_eq_false, Bool.not_eq_false', Bool.not_eq_true', ite_not, A_r0_0, A_r0_1, A_r0_2, A_r0_3, A_r0_4, A_r0_5, A_r0_6, A_r0_7, A_r0_8, A_r0_9, A_r0_10, A_r0_11, A_g0_12, A_g0_13, A_g0_14, A_g0_15, A_g0_16, A_r1_1, A_r1_2, A_r1_3, A_g1_4, A_r6_1, A_g6_2, A_a3, A_a4, A_a5, A_a8, A_a9, A_a10, A_a11, A_a12, A_a13, A_a14, A_a15, A_a16, A_a17, A_a18]
  | false =>
    rw [hr] at hw
    have hw3 : w < 3 := by rcases hw with z | z; omega; cases z
    have run : ∀ u, runL e (dN e (d + 1)) 33 (u + 3) 1 [some (.ref a), some (.int x), some (.int (Int32.ofNat k))] [] (ov TA 19 a A m) = some (.inl none, ov TA 19 a (uA (uA A 17 (wr (A.1 17) (3 * k + w) x)) 16 (wr (A.1 16) k (Int32.ofNat (w + 1)))) m) := by
      intro u
      simp (disch := omega) only [q33_1, q33_2, r8, w1, hw3, Nat.mul_comm k 3, bd_s, kI_r, kV_r, kL_r, rZ_1, rZ_0, rZ_b, rI_ite, bI_ite, ite_tf, ite_ft, bI0, bI1, bf_ite, nAdd, nMul, nLt, nEq, nEqM, nMEq, nMLt, nLtM, nMLt0, if_true, if_false, Nat.reduceAdd, Nat.reduceMul, Nat.zero_add, Nat.add_zero, decide_eq_true_eq, decide_true, decide_false, Nat.reduceEqDiff, Nat.reduceLT, Nat.reduceLeDiff, eq_self, Bool.false_eq_true, Bool.true_eq_false, Bool.not_eq_false', Bool.not_eq_true', ite_not, A_r0_0, A_r0_1, A_r0_2, A_r0_3, A_r0_4, A_r0_5, A_r0_6, A_r0_7, A_r0_8, A_r0_9, A_r0_10, A_r0_11, A_g0_12, A_g0_13, A_g0_14, A_g0_15, A_g0_16, A_r1_1, A_r1_2, A_r1_3, A_g1_4, A_r6_1, A_g6_2, A_a3, A_a4, A_a5, A_a8, A_a9, A_a10, A_a11, A_a12, A_a13, A_a14, A_a15, A_a16, A_a17, A_a18, A_p0_12 he, A_p0_13 he, A_p0_14 he, A_s9 he, A_s10 he, A_s11 he, A_s12 he, A_s13 he, A_s14 he, A_s15 he, A_s16 he, A_s17 he, A_s18 he, uA_s, uA_n, uA_uA, wr_s]
    refine ⟨uA (uA A 17 (wr (A.1 17) (3 * k + w) x)) 16 (wr (A.1 16) k (Int32.ofNat (w + 1))), ?_, ?_⟩
    · refine en33 A_c0 fun t ht => ?_
      obtain ⟨u, rfl⟩ := fu 9 ht rfl
      by_cases h5 : bx s k 5 = nM1
      · have h6 : mayH s h x = false := by
          unfold reqB at hr
          rw [decide_eq_true h5, Bool.true_and] at hr
          exact hr
        rw [hm] at h6
        have h6 : ¬ _ := of_decide_eq_false h6
        have run := run (u + 5)
        subst q1
        simp (disch := omega) only [q33_0, k_lent Z.z hk, h5, k_held Z.z, q4, h6, run, bd_s, kI_r, kV_r, kL_r, rZ_1, rZ_0, rZ_b, rI_ite, bI_ite, ite_tf, ite_ft, bI0, bI1, bf_ite, nAdd, nMul, nLt, nEq, nEqM, nMEq, nMLt, nLtM, nMLt0, if_true, if_false, Nat.reduceAdd, Nat.reduceMul, Nat.zero_add, Nat.add_zero, decide_eq_true_eq, decide_true, decide_false, Nat.reduceEqDiff, Nat.reduceLT, Nat.reduceLeDiff, eq_self, Bool.false_eq_true, Bool.true_eq_false, Bool.not_eq_false', Bool.not_eq_true', ite_not, A_r0_0, A_r0_1, A_r0_2, A_r0_3, A_r0_4, A_r0_5, A_r0_6, A_r0_7, A_r0_8, A_r0_9, A_r0_10, A_r0_11, A_g0_12, A_g0_13, A_g0_14, A_g0_15, A_g0_16, A_r1_1, A_r1_2, A_r1_3, A_g1_4, A_r6_1, A_g6_2, A_a3, A_a4, A_a5, A_a8, A_a9, A_a10, A_a11, A_a12, A_a13, A_a14, A_a15, A_a16, A_a17, A_a18]
      · have run := run (u + 5)
        simp (disch := omega) only [q33_0, k_lent Z.z hk, h5, run, bd_s, kI_r, kV_r, kL_r, rZ_1, rZ_0, rZ_b, rI_ite, bI_ite, ite_tf, ite_ft, bI0, bI1, bf_ite, nAdd, nMul, nLt, nEq, nEqM, nMEq, nMLt, nLtM, nMLt0, if_true, if_false, Nat.reduceAdd, Nat.reduceMul, Nat.zero_add, Nat.add_zero, decide_eq_true_eq, decide_true, decide_false, Nat.reduceEqDiff, Nat.reduceLT, Nat.reduceLeDiff, eq_self, Bool.false_eq_true, Bool.true_eq_false, Bool.not_eq_false', Bool.not_eq_true', ite_not, A_r0_0, A_r0_1, A_r0_2, A_r0_3, A_r0_4, A_r0_5, A_r0_6, A_r0_7, A_r0_8, A_r0_9, A_r0_10, A_r0_11, A_g0_12, A_g0_13, A_g0_14, A_g0_15, A_g0_16, A_r1_1, A_r1_2, A_r1_3, A_g1_4, A_r6_1, A_g6_2, A_a3, A_a4, A_a5, A_a8, A_a9, A_a10, A_a11, A_a12, A_a13, A_a14, A_a15, A_a16, A_a17, A_a18]
    · show OKA Y _ h (queS s x k)
      unfold queS
      rw [w2]
      have Wq := WS_que Z.2.1 hx (show nN (bx s k 8) < 3 by omega)
      unfold queS at Wq
      rw [w2] at Wq
      refine OKA_box (k := k) Z Wq (fun j hj => by rw [lay_lo hj, lay_lo hj]) (by simp (disch := omega) only [uA_n]) (fun i h1 h2 => by simp (disch := omega) only [uA_n]) (by simp (disch := omega) only [uA_n]) rfl (fun k' hne i h1 h2 => by simp only [uA_r, wr_r, if_neg hne]; split <;> (try split) <;> (try subst_vars) <;> (first | rfl | omega)) (fun k' hne i hi => by simp (disch := omega) only [uA_n, uA_s, wr_n]) (fun k' f h1 h2 => by rw [lay_oth (by omega) _ _ h1 h2, lay_oth (by omega) _ _ h1 h2]) (fun _ => ?_)
      unfold RB
      have o : ∀ f, f < 8 → bx (lay (lay s k (9 + w) x) k 8 (Int32.ofNat (w + 1))) k f = bx s k f := fun f hf => by rw [lay_n (by omega) (by omega) (by omega), lay_n (by omega) (by omega) (by omega)]
      rw [o 0 (by omega), o 1 (by omega), o 2 (by omega), o 3 (by omega), o 4 (by omega), o 5 (by omega), o 6 (by omega), lay_s (by omega), nN_o (by omega)]
      simp (disch := omega) only [uA_n, uA_s, wr_s]
      refine ⟨r0, r1, r2, r4, r3, r5, r6, trivial, fun i hi => ?_⟩
      rw [lay_n (by omega) (by omega) (by omega)]
      by_cases q : i = w
      · subst q
        rw [wr_s, lay_s (by omega)]
      · rw [wr_n (by omega), lay_n (by omega) (by omega) (by omega)]
        exact r9 i (by omega)
end
end

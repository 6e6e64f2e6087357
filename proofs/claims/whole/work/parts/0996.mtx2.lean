/-! ===== the reference's text: shelf, list, a letter (printed by wip/whole/tx2.py) ===== -/
noncomputable section
section
variable {e : dEnv} {d b Y : Nat} {M : bX} {l : List Nat} {m : dMem}
theorem c_sign (W : WS Y (M.1 1) (M.1 2)) {q : Nat} : dN e (d + 4) 288 [.ref b, .int (boxOnS (M.1 2) (Int32.ofNat q))] (ov TM 8 b M m) = rI (sgnS (M.1 2) (M.1 1) q) (ov TM 8 b M m) := by
  unfold boxOnS fI sgnS
  cases hf : fnd (nbS (M.1 2)) (fun k => decide (bx (M.1 2) k 4 = Int32.ofNat q)) with
  | none =>
    refine en288 M_c0 fun t ht => ?_
    obtain ⟨u, rfl⟩ := fu 9 ht rfl
    rw [q288_0, if_pos (show oI none = nM1 from rfl)]
  | some k =>
    have hk : k < nbS (M.1 2) := (fnd_some hf).1
    have hk24 : k < 24 := by have := W.1.2.2; unfold nbS at hk; omega
    have hw := W.2.2.2.1 k hk
    obtain ⟨c, c1, c2, -, c4⟩ := hw.1.ex
    have hc : clN (M.1 2) k = c := c2
    have g5 := c_box (e := e) (b := b) (m := m) (M := M) (d := d + 2) hk24 (show 5 < 12 by omega)
    have gs := c_hasSeal (e := e) (b := b) (m := m) (M := M) (d := d + 1) hk24
    have g0 := c_box (e := e) (b := b) (m := m) (M := M) (d := d + 2) hk24 (show 0 < 12 by omega)
    have gh := c_hin (e := e) (b := b) (m := m) (M := M) (d := d) hk24 hw.1
    rw [c1] at g0
    refine en288 M_c0 fun t ht => ?_
    obtain ⟨u, rfl⟩ := fu 9 ht rfl
    show runL e (dN e (d + 3)) 288 (u + 9) 0 [some (.ref b), some (.int (Int32.ofNat k))] [] _ = rI (if bx (M.1 2) k 5 = nM1 then (if selB (M.1 2) k = true then Int32.ofNat 115 else if forB (M.1 2) (M.1 1) k = true then Int32.ofNat 112 else if hinS (M.1 2) (M.1 1) k = Int32.ofNat 0 then Int32.ofNat 100 else Int32.ofNat 98) else Int32.ofNat 108) _
    rw [q288_0, if_neg (by rw [nEqM (by omega)]; exact id), q288_1, g5, kI_r]
    by_cases z5 : bx (M.1 2) k 5 = nM1
    · rw [if_pos z5, if_pos z5, q288_2, gs, kI_r]
      cases zs : selB (M.1 2) k with
      | true => rw [if_neg (by decide +kernel), if_pos rfl]
      | false =>
        rw [if_pos (by decide +kernel), if_neg Bool.false_ne_true, q288_3, M_r0_2]
        simp only [bd_s]
        rw [g0, kI_r, nAdd, M_a1 (by omega)]
        simp only [bd_s]
        have hf1 : forB (M.1 2) (M.1 1) k = decide (M.1 1 (110 + c) = Int32.ofNat 1) := by unfold forB; rw [hc]
        by_cases zf : M.1 1 (110 + c) = Int32.ofNat 1
        · rw [if_pos zf, q288_6, if_pos (by rw [hf1]; exact decide_eq_true zf)]
        · rw [if_neg zf, if_neg (by rw [hf1]; exact fun w => zf (of_decide_eq_true w)), q288_4, gh, kI_r]
          by_cases zh : hinS (M.1 2) (M.1 1) k = Int32.ofNat 0
          · rw [if_pos zh, if_pos zh, q288_6]
          · rw [if_neg zh, if_neg zh, q288_5, q288_6]
    · rw [if_neg z5, if_neg z5]
theorem m289_1 {x : Int32} (he : e.1 ≤ b) (hl : M.1 0 1 = Int32.ofNat 0) : dN e (d + 6) 289 [.ref b, .int x] (ov TM 8 b M m) = rI (Int32.ofNat 0) (ov TM 8 b (mT M 1) m) := by
  refine en289 M_c0 fun t ht => ?_
  obtain ⟨u, rfl⟩ := fu 9 ht rfl
  rw [q289_0, c_nl1 (d := d + 3) he hl, kI_r, if_neg (by decide +kernel), q289_3]
theorem m289_2 {x : Int32} {n : Nat} (he : e.1 ≤ b) (hl : M.1 0 1 = Int32.ofNat 1) (hn : M.1 1 0 = Int32.ofNat n) (hm : n ≤ 6) (hx : rngB 0 ((n : Int) - 1) x = false) : dN e (d + 6) 289 [.ref b, .int x] (ov TM 8 b M m) = rI (Int32.ofNat 0) (ov TM 8 b (mT M 2) m) := by
  have h9 := c_rngN (e := e) (d := d + 4) (m := ov TM 8 b (mT M 0) m) (x := x) (show n ≤ 100000 by omega)
  rw [hx] at h9
  refine en289 M_c0 fun t ht => ?_
  obtain ⟨u, rfl⟩ := fu 9 ht rfl
  rw [q289_0, c_nl0 (d := d + 3) he hl, kI_r, if_pos (by decide +kernel), M_r0_2]
  simp only [bd_s]
  rw [M_a1 (by omega), mT_n (by omega), hn]
  simp only [bd_s]
  rw [h9, kI_r, if_pos (by decide +kernel), q289_2, c_ref_t (d := d + 4) he (by omega) (by omega), kI_r, if_neg (by decide +kernel), q289_3]
/-- a shelf's places -/
theorem c_row (he : e.1 ≤ b) {h s : sV} {i P : Nat} (W : WS Y h s) (hP : h 1 = Int32.ofNat P) (hP8 : P ≤ 8) (hi : i < 6) : ∀ (n q : Nat) (M : bX), q + n = P → M.1 1 = h → M.1 2 = s → yT M (rowK s h i q) → ∃ M', (∀ t, 2 * n + 4 ≤ t → runL e (dN e (d + 5)) 289 t 5 [some (.ref b), some (.int (Int32.ofNat i)), some (.int (Int32.ofNat q))] [] (ov TM 8 b M m) = rI (Int32.ofNat (rowK s h i P).length) (ov TM 8 b M' m)) ∧ yT M' (rowK s h i P) ∧ mX M M' := by
  have hPn : nN (h 1) = P := by rw [hP, nN_o (by omega)]
  intro n
  induction n with
  | zero =>
    intro q M hq h1 h2 Z
    have hq' : q = P := by omega
    rw [hq'] at Z ⊢
    refine ⟨M, fun t ht => ?_, Z, mX.rf⟩
    obtain ⟨u, rfl⟩ : ∃ u, t = u + 2 := ⟨t - 2, by omega⟩
    rw [q289_5, M_r0_2]
    simp only [bd_s]
    rw [M_a1 (by omega), h1, hP]
    simp only [bd_s]
    rw [if_neg (by rw [nLt (by omega) (by omega)]; omega), q289_6, M_g0_21, Z.1]
    rfl
  | succ n ih =>
    intro q M hq h1 h2 Z
    have sv := sgn_v (s := s) (h := h) (q := i * P + q)
    have lq := rowK_len (s := s) (h := h) (i := i) (q := q)
    obtain ⟨M1, g, Z1, X1⟩ := c_say (e := e) (d := d + 4) (m := m) (v := nN (sgnS s h (i * P + q))) he Z (by omega)
    have Z1' : yT M1 (rowK s h i (q + 1)) := by
      show yT M1 (rowK s h i q ++ [nN (sgnS s h (i * nN (h 1) + q))])
      rw [hPn]
      exact Z1
    obtain ⟨M2, g2, Z2, X2⟩ := ih (q + 1) M1 (by omega) ((X1.1 1 (by omega) (by omega)).trans h1) ((X1.1 2 (by omega) (by omega)).trans h2) Z1'
    have b1 := c_boxOn (e := e) (b := b) (m := m) (M := M) (d := d + 3) (x := Int32.ofNat (i * P + q)) (by rw [h2]; exact W.1)
    have b2 := c_sign (e := e) (b := b) (m := m) (M := M) (d := d + 1) (Y := Y) (by rw [h1, h2]; exact W) (q := i * P + q)
    rw [h1, h2] at b2
    rw [h2] at b1
    rw [← sv.1] at g
    refine ⟨M2, fun t ht => ?_, Z2, X1.tr X2⟩
    obtain ⟨u, rfl⟩ : ∃ u, t = u + 1 := ⟨t - 1, by omega⟩
    rw [q289_5, M_r0_2]
    simp only [bd_s]
    rw [M_a1 (by omega), h1, hP]
    simp only [bd_s]
    rw [if_pos (by rw [nLt (by omega) (by omega)]; omega)]
    rw [nMul, nAdd, b1, kI_r, b2, kI_r, g, kV_r, nAdd, g2 u (by omega)]
theorem m289_0 {n k : Nat} (he : e.1 ≤ b) (hl : M.1 0 1 = Int32.ofNat 1) (W : WS Y (M.1 1) (M.1 2)) (H : WH (M.1 1)) (hn : M.1 1 0 = Int32.ofNat n) (hm : n ≤ 6) (hk : k < n) : ∃ M', dN e (d + 6) 289 [.ref b, .int (Int32.ofNat k)] (ov TM 8 b M m) = rI (Int32.ofNat (rowS (M.1 2) (M.1 1) k).length) (ov TM 8 b M' m) ∧ yT M' (rowS (M.1 2) (M.1 1) k) ∧ mX (mT M 0) M' := by
  have h9 := c_rngN (e := e) (d := d + 4) (m := ov TM 8 b (mT M 0) m) (x := Int32.ofNat k) (show n ≤ 100000 by omega)
  rw [rng_k hk (by omega)] at h9
  obtain ⟨P, p1, p2, p3, p4⟩ := H.2.1.ex
  obtain ⟨Z1, X1⟩ := yT_0 (M := mT M 0)
  obtain ⟨M2, g, Z2, X2⟩ := c_row (e := e) (d := d) (m := m) he (i := k) W p1 p4 (by omega) P 0 _ (by omega) (X1.1 1 (by omega) (by omega)) (X1.1 2 (by omega) (by omega)) Z1
  unfold rowS
  rw [p2]
  refine ⟨M2, ?_, Z2, X1.tr X2⟩
  refine en289 M_c0 fun t ht => ?_
  obtain ⟨u, rfl⟩ := fu 9 ht rfl
  rw [q289_0, c_nl0 (d := d + 3) he hl, kI_r, if_pos (by decide +kernel), M_r0_2]
  simp only [bd_s]
  rw [M_a1 (by omega), mT_n (by omega), hn]
  simp only [bd_s]
  rw [h9, kI_r, if_neg (by decide +kernel), q289_1, q289_2, c_ref_f (d := d + 4), kI_r, if_pos (by decide +kernel), q289_4, M_p0_21 he]
  simp only [bd_s]
  rw [g _ (by omega)]
theorem m290_1 (he : e.1 ≤ b) (hl : M.1 0 1 = Int32.ofNat 0) : dN e (d + 8) 290 [.ref b] (ov TM 8 b M m) = rI (Int32.ofNat 0) (ov TM 8 b (mT M 1) m) := by
  refine en290 M_c0 fun t ht => ?_
  obtain ⟨u, rfl⟩ := fu 9 ht rfl
  rw [q290_0, c_nl1 (d := d + 5) he hl, kI_r, if_neg (by decide +kernel)]
/-- the list's boxes -/
theorem c_lst (hY : Y + 100 ≤ 1000000) (he : e.1 ≤ b) {h s : sV} {N : Nat} (W : WS Y h s) (H : WH h) (hN : s 2 = Int32.ofNat N) (hN24 : N ≤ 24) : ∀ (n q : Nat) (M : bX), q + n = N → M.1 1 = h → M.1 2 = s → yT M (lstK s h q) → ∃ M', (∀ t, 3 * n + 4 ≤ t → ∃ u, t ≤ u + 3 * n + 1 ∧ runL e (dN e (d + 7)) 290 t 2 [some (.ref b), some (.int (Int32.ofNat q))] [] (ov TM 8 b M m) = runL e (dN e (d + 7)) 290 u 4 [some (.ref b), none] [] (ov TM 8 b M' m)) ∧ yT M' (lstK s h N) ∧ mX M M' := by
  have hNn : nlS s = N := by unfold nlS; rw [hN, nN_o (by omega)]
  intro n
  induction n with
  | zero =>
    intro q M hq h1 h2 Z
    have hq' : q = N := by omega
    rw [hq'] at Z ⊢
    refine ⟨M, fun t ht => ?_, Z, mX.rf⟩
    obtain ⟨u, rfl⟩ : ∃ u, t = u + 1 := ⟨t - 1, by omega⟩
    refine ⟨u, by omega, ?_⟩
    rw [q290_2, M_r0_3]
    simp only [bd_s]
    rw [M_a2 (by omega), h2, hN]
    simp only [bd_s]
    rw [if_neg (by rw [nLt (by omega) (by omega)]; omega)]
  | succ n ih =>
    intro q M hq h1 h2 Z
    have lq := (lstK_len (s := s) (h := h) (q := q) hY W H (by omega)).1
    obtain ⟨w1, w2, w3⟩ := W.2.2.2.2.1 q (by omega)
    obtain ⟨k, k1, k2, -, k4⟩ := w1.ex
    have dv := due_v (k := k) hY W H (p := q) (by omega) k1 (by omega)
    have hwb : okI 0 7 (bx s k 0) := (W.2.2.2.1 k (by rw [← k2]; exact w2)).1
    have l4 : dgN k ≤ 2 := by unfold dgN; (repeat' split) <;> omega
    have l3 := dig_n (v := k) (by omega)
    have l2 := dgN_b dv.2
    have l1 := dig_n dv.2
    -- the space
    have sp : ∃ M1, (∀ u, runL e (dN e (d + 7)) 290 (u + 1) 2 [some (.ref b), some (.int (Int32.ofNat q))] [] (ov TM 8 b M m) = runL e (dN e (d + 7)) 290 u 3 [some (.ref b), some (.int (Int32.ofNat q))] [] (ov TM 8 b M1 m)) ∧ yT M1 (if 0 < q then lstK s h q ++ [32] else lstK s h q) ∧ mX M M1 := by
      by_cases q0 : 0 < q
      · obtain ⟨M1, g, Z1, X1⟩ := c_say (e := e) (d := d + 6) (m := m) (v := 32) he Z (by omega)
        refine ⟨M1, fun u => ?_, by rw [if_pos q0]; exact Z1, X1⟩
        rw [q290_2, M_r0_3]
        simp only [bd_s]
        rw [M_a2 (by omega), h2, hN]
        simp only [bd_s]
        rw [if_pos (by rw [nLt (by omega) (by omega)]; omega), if_pos (by rw [nLt (by omega) (by omega)]; exact q0), g, kV_r]
      · refine ⟨M, fun u => ?_, by rw [if_neg q0]; exact Z, mX.rf⟩
        rw [q290_2, M_r0_3]
        simp only [bd_s]
        rw [M_a2 (by omega), h2, hN]
        simp only [bd_s]
        rw [if_pos (by rw [nLt (by omega) (by omega)]; omega), if_neg (by rw [nLt (by omega) (by omega)]; exact q0)]
    obtain ⟨M1, g1, Z1, X1⟩ := sp
    have x1 : M1.1 1 = h := (X1.1 1 (by omega) (by omega)).trans h1
    have x2 : M1.1 2 = s := (X1.1 2 (by omega) (by omega)).trans h2
    have ll : (if 0 < q then lstK s h q ++ [32] else lstK s h q).length ≤ 10 * q + 1 := by
      split
      · rw [List.length_append, show ([32] : List Nat).length = 1 from rfl]; omega
      · omega
    obtain ⟨M2, g2, Z2, X2⟩ := c_num (e := e) (d := d) (m := m) he Z1 (v := k) (by omega) (by omega)
    have ll2 : ((if 0 < q then lstK s h q ++ [32] else lstK s h q) ++ dig k).length ≤ 10 * q + 3 := by rw [List.length_append]; omega
    obtain ⟨M3, g3, Z3, X3⟩ := c_say (e := e) (d := d + 6) (m := m) (v := 58) he Z2 (by omega)
    have y1 : M3.1 1 = h := (X3.1 1 (by omega) (by omega)).trans ((X2.1 1 (by omega) (by omega)).trans x1)
    have y2 : M3.1 2 = s := (X3.1 2 (by omega) (by omega)).trans ((X2.1 2 (by omega) (by omega)).trans x2)
    have gd := c_due (e := e) (b := b) (m := m) (M := M3) (d := d + 5) (k := k) (by omega) (by rw [y2]; exact hwb)
    rw [y1, y2, dv.1] at gd
    have ll3 : (((if 0 < q then lstK s h q ++ [32] else lstK s h q) ++ dig k) ++ [58]).length ≤ 10 * q + 4 := by rw [List.length_append, show ([58] : List Nat).length = 1 from rfl]; omega
    obtain ⟨M4, g4, Z4, X4⟩ := c_num (e := e) (d := d) (m := m) he Z3 (v := nN (dueS s h k)) dv.2 (by omega)
    have Z4' : yT M4 (lstK s h (q + 1)) := by
      show yT M4 ((((if 0 < q then lstK s h q ++ [32] else lstK s h q) ++ dig (nN (s (3 + q)))) ++ [58]) ++ dig (nN (dueS s h (nN (s (3 + q))))))
      rw [k2]
      exact Z4
    obtain ⟨M5, g5, Z5, X5⟩ := ih (q + 1) M4 (by omega) ((X4.1 1 (by omega) (by omega)).trans y1) ((X4.1 2 (by omega) (by omega)).trans y2) Z4'
    refine ⟨M5, fun t ht => ?_, Z5, (((X1.tr X2).tr X3).tr X4).tr X5⟩
    obtain ⟨u, rfl⟩ : ∃ u, t = u + 1 + 1 := ⟨t - 2, by omega⟩
    obtain ⟨u2, u3, g6⟩ := g5 u (by omega)
    refine ⟨u2, by omega, ?_⟩
    rw [g1, q290_3, M_r0_3]
    simp only [bd_s]
    rw [nAdd, M_a2 (by omega), x2, k1]
    simp only [bd_s]
    rw [g2, kV_r, g3, kV_r, M_r0_3]
    simp only [bd_s]
    rw [M_a2 (by omega), y2, k1]
    simp only [bd_s]
    rw [gd, kI_r, g4, kV_r, nAdd, g6]
theorem m290_0 (hY : Y + 100 ≤ 1000000) (he : e.1 ≤ b) (hl : M.1 0 1 = Int32.ofNat 1) (W : WS Y (M.1 1) (M.1 2)) (H : WH (M.1 1)) : ∃ M', dN e (d + 8) 290 [.ref b] (ov TM 8 b M m) = rI (Int32.ofNat (lstS (M.1 2) (M.1 1)).length) (ov TM 8 b M' m) ∧ yT M' (lstS (M.1 2) (M.1 1)) ∧ mX (mT M 0) M' := by
  obtain ⟨N, n1, n2, -, n4⟩ := W.2.1.ex
  have hNn : nlS (M.1 2) = N := n2
  obtain ⟨Z1, X1⟩ := yT_0 (M := mT M 0)
  obtain ⟨M2, g, Z2, X2⟩ := c_lst (e := e) (d := d) (m := m) hY he W H n1 n4 N 0 _ (by omega) (X1.1 1 (by omega) (by omega)) (X1.1 2 (by omega) (by omega)) Z1
  have lq := lstK_len (s := M.1 2) (h := M.1 1) (q := N) hY W H (by omega)
  unfold lstS
  rw [hNn]
  by_cases z : N = 0
  · rw [if_pos z]
    rw [z] at Z2
    obtain ⟨M3, g3, Z3, X3⟩ := c_say (e := e) (d := d + 6) (m := m) (v := 45) he Z2 (show 0 < 300 by omega)
    refine ⟨M3, ?_, Z3, (X1.tr X2).tr X3⟩
    refine en290 M_c0 fun t ht => ?_
    obtain ⟨u, rfl⟩ := fu 200 ht rfl
    rw [q290_0, c_nl0 (d := d + 5) he hl, kI_r, if_pos (by decide +kernel), q290_1, M_p0_21 he]
    simp only [bd_s]
    obtain ⟨u2, u3, g6⟩ := g (u + 198) (by omega)
    obtain ⟨u4, rfl⟩ : ∃ u4, u2 = u4 + 2 := ⟨u2 - 2, by omega⟩
    rw [g6, q290_4, M_g0_21, Z2.1]
    simp only [bd_s]
    rw [if_pos (show Int32.ofNat (lstK (M.1 2) (M.1 1) 0).length = Int32.ofNat 0 from rfl), g3, kV_r, q290_5, M_g0_21, Z3.1]
    rfl
  · rw [if_neg z]
    have l0 := lq.2 (by omega)
    refine ⟨M2, ?_, Z2, X1.tr X2⟩
    refine en290 M_c0 fun t ht => ?_
    obtain ⟨u, rfl⟩ := fu 200 ht rfl
    rw [q290_0, c_nl0 (d := d + 5) he hl, kI_r, if_pos (by decide +kernel), q290_1, M_p0_21 he]
    simp only [bd_s]
    obtain ⟨u2, u3, g6⟩ := g (u + 198) (by omega)
    obtain ⟨u4, rfl⟩ : ∃ u4, u2 = u4 + 2 := ⟨u2 - 2, by omega⟩
    have := Z2.2.1
    rw [g6, q290_4, M_g0_21, Z2.1]
    simp only [bd_s]
    rw [if_neg (by rw [nEq (by omega) (by omega)]; omega), q290_5, M_g0_21, Z2.1]
    rfl
theorem m291_1 {x : Int32} (he : e.1 ≤ b) (Z : yT M l) (hx : rngB 0 ((l.length : Int) - 1) x = false) : dN e (d + 3) 291 [.ref b, .int x] (ov TM 8 b M m) = rI (Int32.ofNat 0) (ov TM 8 b (mT M 1) m) := by
  have h9 := c_rngN (e := e) (d := d + 1) (m := ov TM 8 b (mT M 0) m) (x := x) (show l.length ≤ 100000 by have := Z.2.1; omega)
  rw [hx] at h9
  refine en291 M_c0 fun t ht => ?_
  obtain ⟨u, rfl⟩ := fu 9 ht rfl
  rw [q291_0, M_p0_0 he, mT_mk]
  simp only [bd_s]
  rw [M_g0_21, mT_0k (by omega), Z.1]
  simp only [bd_s]
  rw [h9, kI_r, if_pos (by decide +kernel), q291_2, c_ref_t (d := d + 1) he (by omega) (by omega), kI_r, if_neg (by decide +kernel), q291_4]
theorem m291_0 {k : Nat} (he : e.1 ≤ b) (Z : yT M l) (hk : k < l.length) : dN e (d + 3) 291 [.ref b, .int (Int32.ofNat k)] (ov TM 8 b M m) = rI (Int32.ofNat (l.getD k 0)) (ov TM 8 b (mT M 0) m) := by
  have hl := Z.2.1
  have h9 := c_rngN (e := e) (d := d + 1) (m := ov TM 8 b (mT M 0) m) (x := Int32.ofNat k) (show l.length ≤ 100000 by omega)
  rw [rng_k hk (by omega)] at h9
  refine en291 M_c0 fun t ht => ?_
  obtain ⟨u, rfl⟩ := fu 9 ht rfl
  rw [q291_0, M_p0_0 he, mT_mk]
  simp only [bd_s]
  rw [M_g0_21, mT_0k (by omega), Z.1]
  simp only [bd_s]
  rw [h9, kI_r, if_neg (by decide +kernel), q291_1, q291_2, c_ref_f (d := d + 1), kI_r, if_pos (by decide +kernel), q291_3, M_r0_20]
  simp only [bd_s]
  rw [M_a7 (by omega), mT_n (by omega), Z.2.2 k hk]
  simp only [bd_s]
  rw [q291_4]
end
end

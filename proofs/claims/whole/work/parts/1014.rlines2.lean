/-! ===== further lines of a text, as the reference reads them (printed by wip/whole/rl2.py) ===== -/
noncomputable section
section
variable {e : dEnv} {d b c x Y y : Nat} {T : dTok} {M : bX} {h s : sV} {m : dMem}
theorem r219 (he : e.1 ≤ b) (Z : RTc T M c) (h19 : M.1 0 19 = Int32.ofNat y) (h1 : M.1 1 = h) (h2 : M.1 2 = s) (W : WS (2500 + y) h s) (H : WH h) (hy : y ≤ 500) : rlR T b m M (dN e (d + 6) 219 [.ref b] (ov TM 8 b M m)) (pReader T (c, s, h, y)) := by
  rw [dN_at (j := 219) (as := [.ref b]) (m := ov TM 8 b M m) (ls := [some (.ref b), none]) M_c0 rfl rfl rfl, dFu, pReader_e, q219_0]
  have hn8 : nN (h 3) ≤ 6 := H.2.2.2.1.2.2
  have hn8' : nN (h 2) ≤ 8 := H.2.2.1.2.2
  have a2 : M.1 1 3 = Int32.ofNat (nN (h 3)) := by rw [h1]; exact H.2.2.2.1.1
  rw [M_r0_2]
  (try simp only [bd_s])
  rw [M_a1 (by omega), a2]
  (try simp only [bd_s])
  by_cases q : nN (h 3) = 6
  · have B := flM_B Z (k := 4) (by omega) (by omega)
    rw [if_pos (by rw [q]), q219_2, m209_1 (d := d + 3) he Z.2.2, kV_r, b210 (d := d + 2) B.ne, kV_r, M_g0_16]
    (try simp only [bd_s])
    rw [if_neg B.ne, decide_eq_true q]
    exact ⟨_, rfl, B, flM_E.f⟩
  · obtain ⟨M1, g1, Z1, E1⟩ := m210 (e := e) (d := d + 2) (m := m) he Z
    have b2 : M1.1 1 3 = Int32.ofNat (nN (h 3)) := by rw [E1.1 1 (by omega)]; exact a2
    rw [if_neg (by rw [nEq (by omega) (by omega)]; exact q), q219_1, q219_2, m209_0 (d := d + 3), kV_r, g1, kV_r, M_g0_16, Z1.2.2, decide_eq_false q, Bool.not_false, pC_t]
    (try simp only [bd_s])
    rw [if_pos (by trivial), q219_3, M_r0_2]
    (try simp only [bd_s])
    rw [M_a1 (by omega), b2]
    (try simp only [bd_s])
    have L := m215 (e := e) (d := d + 1) (m := m) he Z1 (p := 4) (many := nN (h 3)) (by omega) (by omega)
    rw [E1.1 1 (by omega), h1] at L
    have tail : ∀ (X : bX) (z : dErr), BAD T X z → ∃ X', (runL e (dN e (d + 5)) 219 (3999900 + 96) 4 [none, none] [.int (X.1 1 3), .int (Int32.ofNat 3), .ref (b + 1)] (ov TM 8 b X m)) = some (.inl none, ov TM 8 b X' m) ∧ BAD T X' z ∧ mF X X' := by
      intro X z B
      rw [q219_4, q219_5, c_flag0 (d := d + 4), kI_r, M_s1 he (by omega)]
      (try simp only [bd_s])
      exact ⟨_, rfl, B.c0 (uA_n (by omega)), mF_1⟩
    cases hr : pName T (nx T c) h 4 (nN (h 3)) with
    | inl z =>
      rw [hr] at L
      obtain ⟨M2, g2, B, E2⟩ := L
      have B1 : ∀ g : sV, BAD T (uA M2 1 g) z := fun g => B.c0 (uA_n (by omega))
      rw [g2, kV_r, M_r0_2]
      (try simp only [bd_s])
      rw [b213 (d := d + 1) B.ne, kI_r, nAdd, M_s1 he (by omega)]
      (try simp only [bd_s])
      rw [M_r0_2]
      (try simp only [bd_s])
      rw [M_a1 (by omega)]
      (try simp only [bd_s])
      rw [M_g0_16]
      (try simp only [bd_s])
      rw [if_neg (B1 _).ne]
      obtain ⟨X', g, B', F'⟩ := tail _ z (B1 (wr (M2.1 1) (40 + nN (h 3)) (Int32.ofNat 1)))
      rw [g]
      exact ⟨X', rfl, B', E1.f.tr (E2.f.tr (mF_1.tr F'))⟩
    | inr w =>
      rw [hr] at L
      obtain ⟨hk, hL⟩ := pName_r hr
      obtain ⟨M2, g2, Z2, hM2, E2⟩ := L
      rw [E1.1 1 (by omega), h1] at hM2
      rw [g2, kV_r, M_r0_2, pB_r]
      (try simp only [bd_s])
      have L3 := m213n (e := e) (d := d + 1) (m := m) he Z2 (lo := 1) (hi := 4) (by omega) (by omega)
      cases hr2 : pNum T (nx T (nx T c)) 1 4 with
      | inl z =>
        rw [show ((4 : Nat) : Int) = 4 from rfl, hr2] at L3
        obtain ⟨M3, g3, B, E3⟩ := L3
        have B1 : ∀ g : sV, BAD T (uA M3 1 g) z := fun g => B.c0 (uA_n (by omega))
        rw [g3, kI_r, nAdd, M_s1 he (by omega)]
        (try simp only [bd_s])
        rw [M_r0_2]
        (try simp only [bd_s])
        rw [M_a1 (by omega)]
        (try simp only [bd_s])
        rw [M_g0_16]
        (try simp only [bd_s])
        rw [if_neg (B1 _).ne]
        obtain ⟨X', g, B', F'⟩ := tail _ z (B1 (wr (M3.1 1) (40 + nN (h 3)) (Int32.ofNat 1)))
        rw [g]
        exact ⟨X', rfl, B', E1.f.tr (E2.f.tr (E3.f.tr (mF_1.tr F')))⟩
      | inr p =>
        obtain ⟨-, -, p1, p2⟩ := pNum_r hr2
        rw [show ((4 : Nat) : Int) = 4 from rfl, hr2] at L3
        obtain ⟨M3, g3, Z3, E3⟩ := L3
        have hM3 : M3.1 1 = nmW T (nx T c) h (4 + 6 * nN (h 3)) := (E3.1 1 (by omega)).trans hM2
        have k3 : wr (nmW T (nx T c) h (4 + 6 * nN (h 3))) (40 + nN (h 3)) (Int32.ofNat p) 3 = Int32.ofNat (nN (h 3)) := by
          rw [wr_n (by omega), nmW_o (by omega)]
          exact H.2.2.2.1.1
        rw [g3, kI_r, nAdd, M_s1 he (by omega), hM3]
        (try simp only [bd_s])
        rw [M_r0_2]
        (try simp only [bd_s])
        rw [M_a1 (by omega), uA_s, k3]
        (try simp only [bd_s])
        rw [M_g0_16, (Z3.k1).2.2]
        (try simp only [bd_s])
        rw [if_pos (by trivial), q219_5, c_flag1 (d := d + 4), kI_r, nAdd, M_s1 he (by omega), uA_s]
        (try simp only [bd_s])
        have hc1 : (nx T c) < tN T := Z1.2.1.2.2.2.2
        have wt : WS (2500 + y) (rdrH T (nx T c) h p) s := by
          refine WS_told W ?_ ?_ ?_ (fun k hk2 => rdrH_o (by omega) (by omega) (by omega))
          · unfold mkN
            rw [rdrH_o (by omega) (by omega) (by omega), rdrH_o (by omega) (by omega) (by omega)]
          · rw [rdrH_o (by omega) (by omega) (by omega)]
            exact Nat.le_refl _
          · rw [rdrH_e, if_pos rfl, nN_o (by omega)]
            omega
        refine ⟨_, rfl, Z3.k1.k1, ?_, ?_, ?_, wt, WH_rdr H Z.1.1 hc1 hk q (by omega), hy, E1.f.tr (E2.f.tr (E3.f.tr (mF_1.tr mF_1)))⟩
        · rw [uA_n (by omega), uA_n (by omega), E3.2 19 (by omega), E2.2 19 (by omega), E1.2 19 (by omega)]; exact h19
        · rw [uA_n (by omega), uA_n (by omega), E3.1 2 (by omega), E2.1 2 (by omega) (by omega), E1.1 2 (by omega)]; exact h2
        · rw [uA_s]
          rfl
theorem r218 (he : e.1 ≤ b) (Z : RTc T M c) (h19 : M.1 0 19 = Int32.ofNat y) (h1 : M.1 1 = h) (h2 : M.1 2 = s) (W : WS (2500 + y) h s) (H : WH h) (hy : y ≤ 500) (S : hSt e x m) (hx : x ≤ b) : rlR T b m M (dN e (d + 7) 218 [.ref b] (ov TM 8 b M m)) (pNew T (c, s, h, y)) := by
  rw [dN_at (j := 218) (as := [.ref b]) (m := ov TM 8 b M m) (ls := [some (.ref b), none, none, none, none]) M_c0 rfl rfl rfl, dFu, pNew_e, q218_0]
  have hn8 : nN (h 2) ≤ 8 := H.2.2.1.2.2
  have a2 : M.1 1 2 = Int32.ofNat (nN (h 2)) := by rw [h1]; exact H.2.2.1.1
  have hb24 : nbS s ≤ 24 := W.1.2.2
  have s1 : M.1 2 1 = Int32.ofNat (nbS s) := by rw [h2]; exact W.1.1
  have y0 : s 0 = Int32.ofNat (nN (s 0)) := W.2.2.1.1
  have yb : nN (s 0) ≤ 2500 + y := W.2.2.1.2.2
  have hm47 := (WH_mk H).2.2
  have fs : ∀ X : bX, X.1 1 = h → X.1 2 = s → dN e (d + 6) 176 [.ref b] (ov TM 8 b X m) = rI (fstS s h) (ov TM 8 b X m) := by
    intro X x1 x2
    have := c_fst (e := e) (b := b) (m := m) (M := X) (d := d + 3) (by rw [x2]; exact W.1) (by rw [x1]; exact H)
    rwa [x1, x2] at this
  have fld : ∀ (t : Nat) (i : Int32), ¬ (decide (nbS s < 24) && !decide (fstS s h = nM1)) = true → runL e (dN e (d + 6)) 218 (t + 40) 3 [some (.ref b), none, none, none, none] [.int (Int32.ofNat 1), .ref b] (ov TM 8 b M m) = some (.inl none, ov TM 8 b (flM M 4) m) := by
    intro t i hh
    have B := flM_B Z (k := 4) (by omega) (by omega)
    have f1 : (flM M 4).1 1 = h := (flM_E.1 1 (by omega)).trans h1
    have f2 : (flM M 4).1 2 = s := (flM_E.1 2 (by omega)).trans h2
    rw [q218_3, m209_1 (d := d + 4) he Z.2.2, kV_r, b210 (d := d + 3) B.ne, kV_r, M_r0_2]
    (try simp only [bd_s])
    rw [M_a1 (by omega)]
    (try simp only [bd_s])
    rw [b213 (d := d + 2) B.ne, kI_r, M_r0_3]
    (try simp only [bd_s])
    rw [M_a2 (by omega)]
    (try simp only [bd_s])
    rw [b213 (d := d + 2) B.ne, kI_r, fs _ f1 f2, kI_r, M_g0_16]
    (try simp only [bd_s])
    rw [if_neg B.ne, q218_4, M_g0_16]
    (try simp only [bd_s])
    rw [if_neg B.ne, q218_5]
  rw [M_r0_3]
  (try simp only [bd_s])
  rw [M_a2 (by omega), s1]
  (try simp only [bd_s])
  cases hb : (decide (nbS s < 24) && !decide (fstS s h = nM1)) with
  | false =>
    have nb : ¬ (decide (nbS s < 24) && !decide (fstS s h = nM1)) = true := by rw [hb]; exact Bool.noConfusion
    have B := flM_B Z (k := 4) (by omega) (by omega)
    by_cases q : nbS s = 24
    · rw [if_pos (by rw [q]), q218_1]
      rw [show (3999900 + 98 : Nat) = 3999900 + 58 + 40 from rfl, fld _ (Int32.ofNat 0) nb]
      exact ⟨_, rfl, B, flM_E.f⟩
    · rw [if_neg (by rw [nEq (by omega) (by omega)]; exact q), fs M h1 h2, kI_r]
      rw [decide_eq_true (show nbS s < 24 by omega), Bool.true_and] at hb
      by_cases q2 : fstS s h = nM1
      · rw [if_pos q2, q218_1, show (3999900 + 98 : Nat) = 3999900 + 58 + 40 from rfl, fld _ (Int32.ofNat 0) nb]
        exact ⟨_, rfl, B, flM_E.f⟩
      · rw [decide_eq_false q2] at hb
        cases hb
  | true =>
    rw [Bool.and_eq_true] at hb
    have hb1 : nbS s < 24 := of_decide_eq_true hb.1
    have hb2 : ¬ fstS s h = nM1 := fun z => by
      have := hb.2
      rw [decide_eq_true z] at this
      cases this
    obtain ⟨q, hq, hqm⟩ : ∃ q, fstS s h = Int32.ofNat q ∧ q < mkN h := by
      unfold fstS fI at hb2 ⊢
      cases hf : fnd (mkN h) (frB s) with
      | none => rw [hf] at hb2; exact absurd rfl hb2
      | some q => exact ⟨q, rfl, (fnd_some hf).1⟩
    obtain ⟨M1, g1, Z1, E1⟩ := m210 (e := e) (d := d + 3) (m := m) he Z
    have e1 : M1.1 1 = h := (E1.1 1 (by omega)).trans h1
    have e2 : M1.1 2 = s := (E1.1 2 (by omega)).trans h2
    rw [if_neg (by rw [nEq (by omega) (by omega)]; omega), fs M h1 h2, kI_r, if_neg hb2, q218_2, q218_3, m209_0 (d := d + 4), kV_r, g1, kV_r, M_r0_2, pC_t]
    (try simp only [bd_s])
    have b2 : M1.1 1 2 = Int32.ofNat (nN (h 2)) := by rw [E1.1 1 (by omega)]; exact a2
    rw [M_a1 (by omega), b2]
    (try simp only [bd_s])
    have L := m213c (e := e) (d := d + 2) (m := m) he Z1 (n := nN (h 2)) (by omega)
    have fin4 : ∀ (X : bX) (i j k : Int32) (t : Nat) (z : dErr), BAD T X z → runL e (dN e (d + 6)) 218 (t + 2) 4 [some (.ref b), some (.int i), some (.int j), some (.int k), none] [] (ov TM 8 b X m) = some (.inl none, ov TM 8 b X m) := by
      intro X i j k t z B
      rw [q218_4, M_g0_16]
      (try simp only [bd_s])
      rw [if_neg B.ne, q218_5]
    cases hr : pNum T (nx T c) 0 ((nN (h 2) : Int) - 1) with
    | inl z =>
      rw [hr] at L
      obtain ⟨M2, g2, B, E2⟩ := L
      rw [g2, kI_r, M_r0_3]
      (try simp only [bd_s])
      rw [M_a2 (by omega)]
      (try simp only [bd_s])
      rw [b213 (d := d + 2) B.ne, kI_r, fs M2 ((E2.1 1 (by omega)).trans e1) ((E2.1 2 (by omega)).trans e2), kI_r, M_g0_16]
      (try simp only [bd_s])
      rw [if_neg B.ne, fin4 M2 _ _ _ _ z B]
      exact ⟨M2, rfl, B, E1.f.tr E2.f⟩
    | inr p =>
      obtain ⟨-, -, p1, p2⟩ := pNum_r hr
      rw [hr] at L
      obtain ⟨M2, g2, Z2, E2⟩ := L
      have f1 : M2.1 1 = h := (E2.1 1 (by omega)).trans e1
      have f2 : M2.1 2 = s := (E2.1 2 (by omega)).trans e2
      rw [g2, kI_r, M_r0_3, pB_r]
      (try simp only [bd_s])
      have a0 : aI (ov TM 8 b M2 m) 0 (b + 2) (Int32.ofNat 0) = some (Int32.ofNat (nN (s 0))) := by rw [M_a2 (by omega), f2, ← y0]
      rw [a0]
      (try simp only [bd_s])
      have L3 := m213n (e := e) (d := d + 2) (m := m) he Z2 (lo := 1800) (hi := nN (s 0)) (by omega) (by omega)
      cases hr2 : pNum T (nx T (nx T c)) 1800 (nN (s 0) : Int) with
      | inl z =>
        rw [hr2] at L3
        obtain ⟨M3, g3, B, E3⟩ := L3
        rw [g3, kI_r, fs M3 ((E3.1 1 (by omega)).trans f1) ((E3.1 2 (by omega)).trans f2), kI_r, M_g0_16]
        (try simp only [bd_s])
        rw [if_neg B.ne, fin4 M3 _ _ _ _ z B]
        exact ⟨M3, rfl, B, E1.f.tr (E2.f.tr E3.f)⟩
      | inr v =>
        obtain ⟨-, -, v1, v2⟩ := pNum_r hr2
        rw [hr2] at L3
        obtain ⟨M3, g3, Z3, E3⟩ := L3
        have k1 : M3.1 1 = h := (E3.1 1 (by omega)).trans f1
        have k2 : M3.1 2 = s := (E3.1 2 (by omega)).trans f2
        have F3 : mF M M3 := E1.f.tr (E2.f.tr E3.f)
        have k19 : M3.1 0 19 = Int32.ofNat y := by rw [E3.2 19 (by omega), E2.2 19 (by omega), E1.2 19 (by omega)]; exact h19
        have g5 := m211 (e := e) (d := d + 3) (m := m) (x := x) Z3 S hx (k := 16) (by omega)
        rw [g3, kI_r, fs M3 k1 k2, kI_r, M_g0_16, Z3.2.2, pB_r]
        (try simp only [bd_s])
        rw [if_pos (by trivial), g5, kI_r, show wd 16 = wd 14 from rfl]
        have fin : ∀ (X : bX) (c' r : Nat) (t : Nat), RTc T X (nx T c') → X.1 1 = h → X.1 2 = s → X.1 0 19 = Int32.ofNat y → mF M X → r < mkN h → rlR T b m M (runL e (dN e (d + 6)) 218 (t + 2) 4 [some (.ref b), some (.int (Int32.ofNat p)), some (.int (Int32.ofNat v)), some (.int (Int32.ofNat r)), none] [] (ov TM 8 b X m)) (.inr (c', newS s (Int32.ofNat p) (Int32.ofNat v) (Int32.ofNat r), h, y)) := by
          intro X c' r t ZX x1 x2 x19 FX hr
          have gn := c_new (e := e) (b := b) (m := m) (M := X) (d := d + 4) (c := Int32.ofNat p) (y := Int32.ofNat v) (q := Int32.ofNat r) he (by rw [x2]; exact W.1) (by rw [x2]; exact hb1)
          rw [q218_4, M_g0_16, ZX.2.2]
          (try simp only [bd_s])
          rw [if_pos (by trivial), gn, kI_r, q218_5, x2]
          exact ⟨_, rfl, ZX.k2, by rw [uA_n (by omega)]; exact x19, uA_s _ _ _, by rw [uA_n (by omega)]; exact x1, WS_new (Y := 2500 + y) (h := h) (s := s) (c := p) (y := v) (q := r) W hb1 (by omega) (by omega) (by omega) (by omega) (by omega) hr (by omega), H, hy, FX.tr mF_2⟩
        cases hw : isW T (nx T (nx T (nx T c))) (wd 14) with
        | true =>
          obtain ⟨M4, g4, Z4, E4⟩ := m210 (e := e) (d := d + 3) (m := m) he Z3
          have l1 : M4.1 1 = h := (E4.1 1 (by omega)).trans k1
          have l2 : M4.1 2 = s := (E4.1 2 (by omega)).trans k2
          have L5 := m217 (e := e) (d := d + 1) (m := m) (c := (nx T (nx T (nx T c)))) he Z4 (by rw [l2]; exact W.1) (by rw [l1]; exact H)
          rw [l1, l2] at L5
          rw [if_neg (by decide +kernel), g4, kV_r]
          cases hr3 : pFree T (nx T (nx T (nx T c))) s h with
          | inl z =>
            rw [hr3] at L5
            obtain ⟨M5, w5, g6, B, E5⟩ := L5
            rw [g6, kI_r, fin4 M5 _ _ _ _ z B]
            exact ⟨M5, rfl, B, F3.tr (E4.f.tr E5.f)⟩
          | inr r =>
            rw [hr3] at L5
            obtain ⟨M5, g6, Z5, E5⟩ := L5
            obtain ⟨r1, r2, r3⟩ := pFree_r H hr3
            rw [g6, kI_r]
            exact fin M5 r.2 r.1 _ Z5 ((E5.1 1 (by omega)).trans l1) ((E5.1 2 (by omega)).trans l2) (by rw [E5.2 19 (by omega), E4.2 19 (by omega)]; exact k19) (F3.tr (E4.f.tr E5.f)) r1
        | false =>
          rw [if_pos (by decide +kernel), hq]
          exact fin M3 (nx T (nx T c)) q _ Z3 k1 k2 k19 F3 hqm
theorem r221 (he : e.1 ≤ b) (Z : RTc T M c) (h19 : M.1 0 19 = Int32.ofNat y) (h1 : M.1 1 = h) (h2 : M.1 2 = s) (W : WS (2500 + y) h s) (H : WH h) (hy : y ≤ 500) : rlR T b m M (dN e (d + 6) 221 [.ref b] (ov TM 8 b M m)) (pSeal T (c, s, h, y)) := by
  rw [dN_at (j := 221) (as := [.ref b]) (m := ov TM 8 b M m) (ls := [some (.ref b), none, none]) M_c0 rfl rfl rfl, dFu, pSeal_e, q221_0]
  obtain ⟨M1, g1, Z1, E1⟩ := m210 (e := e) (d := d + 2) (m := m) he Z
  have e1 : M1.1 1 = h := (E1.1 1 (by omega)).trans h1
  have e2 : M1.1 2 = s := (E1.1 2 (by omega)).trans h2
  have y0 : s 0 = Int32.ofNat (nN (s 0)) := W.2.2.1.1
  have yb : nN (s 0) ≤ 2500 + y := W.2.2.1.2.2
  have L := m220 (e := e) (d := d + 2) (m := m) he Z1 (by rw [e2]; exact W.1)
  rw [e2] at L
  rw [g1, kV_r]
  unfold pKept
  have tail : ∀ (X : bX) (i : Int32) (t : Nat) (z : dErr), BAD T X z → ∀ j : Int32, runL e (dN e (d + 5)) 221 (t + 3) 2 [some (.ref b), some (.int i), none] [.int j, .ref b] (ov TM 8 b X m) = some (.inl none, ov TM 8 b X m) := by
    intro X i t z B j
    rw [q221_2, b209 (d := d + 3) B.ne, kV_r, b210 (d := d + 2) B.ne, kV_r, M_r0_3]
    (try simp only [bd_s])
    rw [M_a2 (by omega)]
    (try simp only [bd_s])
    rw [b213 (d := d + 1) B.ne, kI_r, M_g0_16]
    (try simp only [bd_s])
    rw [if_neg B.ne, q221_3]
  cases hr : pBox T (nx T c) s with
  | inl z =>
    rw [hr] at L
    obtain ⟨M2, g2, B, E2⟩ := L
    rw [g2, kI_r, M_g0_16]
    (try simp only [bd_s])
    rw [if_neg B.ne, q221_1, tail M2 _ _ z B]
    exact ⟨M2, rfl, B, E1.f.tr E2.f⟩
  | inr k =>
    rw [hr] at L
    have L' : dN e (d + 5) 220 [.ref b] (ov TM 8 b M1 m) = rI (Int32.ofNat k) (ov TM 8 b M1 m) := L
    obtain ⟨-, -, -, r4⟩ := pNum_r hr
    have hb24 : nbS s ≤ 24 := W.1.2.2
    have hk : k < nbS s := by omega
    have gg := c_isGone (e := e) (b := b) (m := m) (M := M1) (d := d + 3) (k := k) (by omega)
    rw [e2] at gg
    rw [L', kI_r, M_g0_16, Z1.2.2, pB_r]
    (try simp only [bd_s])
    rw [if_pos (by trivial), gg, kI_r]
    cases hg : gonB s k with
    | true =>
      have B := flM_B Z1 (k := 3) (by omega) (by omega)
      rw [if_neg (by decide +kernel), q221_2, m209_1 (d := d + 3) he Z1.2.2, kV_r, b210 (d := d + 2) B.ne, kV_r, M_r0_3]
      (try simp only [bd_s])
      rw [M_a2 (by omega)]
      (try simp only [bd_s])
      rw [b213 (d := d + 1) B.ne, kI_r, M_g0_16]
      (try simp only [bd_s])
      rw [if_neg B.ne, q221_3]
      exact ⟨_, rfl, B, E1.f.tr flM_E.f⟩
    | false =>
      obtain ⟨M2, g2, Z2, E2⟩ := m210 (e := e) (d := d + 2) (m := m) he Z1
      have f1 : M2.1 1 = h := (E2.1 1 (by omega)).trans e1
      have f2 : M2.1 2 = s := (E2.1 2 (by omega)).trans e2
      have a0 : aI (ov TM 8 b M2 m) 0 (b + 2) (Int32.ofNat 0) = some (Int32.ofNat (nN (s 0))) := by rw [M_a2 (by omega), f2, ← y0]
      have L3 := m213n (e := e) (d := d + 1) (m := m) he Z2 (lo := nN (s 0)) (hi := 9999) (by omega) (by omega)
      rw [if_pos (by decide +kernel), q221_1, q221_2, m209_0 (d := d + 3), kV_r, g2, kV_r, M_r0_3]
      (try simp only [bd_s])
      rw [a0]
      (try simp only [bd_s])
      show rlR T b m M _ (pBn (pNum T (nx T (nx T c)) (nN (s 0)) 9999) _)
      cases hr2 : pNum T (nx T (nx T c)) (nN (s 0)) 9999 with
      | inl z =>
        rw [show ((9999 : Nat) : Int) = 9999 from rfl, hr2] at L3
        obtain ⟨M3, g3, B, E3⟩ := L3
        rw [g3, kI_r, M_g0_16]
        (try simp only [bd_s])
        rw [if_neg B.ne, q221_3]
        exact ⟨M3, rfl, B, E1.f.tr (E2.f.tr E3.f)⟩
      | inr v =>
        rw [show ((9999 : Nat) : Int) = 9999 from rfl, hr2] at L3
        obtain ⟨M3, g3, Z3, E3⟩ := L3
        have gl := c_lays (e := e) (b := b) (m := m) (M := M3) (d := d + 4) (k := k) (w := 3) (x := Int32.ofNat v) he (by omega) (by omega)
        rw [g3, kI_r, M_g0_16, Z3.2.2]
        (try simp only [bd_s])
        rw [if_pos (by trivial), gl, kV_r, q221_3]
        have f3 : M3.1 2 = s := (E3.1 2 (by omega)).trans f2
        refine ⟨_, rfl, Z3.k2, ?_, ?_, ?_, WS_36 W (Or.inl rfl), H, hy, E1.f.tr (E2.f.tr (E3.f.tr mF_2))⟩
        · rw [uA_n (by omega), E3.2 19 (by omega), E2.2 19 (by omega), E1.2 19 (by omega)]; exact h19
        · rw [uA_s, f3]
        · rw [uA_n (by omega), E3.1 1 (by omega)]; exact f1
end
end

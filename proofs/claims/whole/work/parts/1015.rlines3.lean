/-! ===== request, back, move, strike, pass as the reference reads them (printed by wip/whole/rl3.py) ===== -/
noncomputable section
section
variable {e : dEnv} {d b c x Y y : Nat} {T : dTok} {M : bX} {h s : sV} {m : dMem}
theorem r222 (he : e.1 ≤ b) (Z : RTc T M c) (h19 : M.1 0 19 = Int32.ofNat y) (h1 : M.1 1 = h) (h2 : M.1 2 = s) (W : WS (2500 + y) h s) (H : WH h) (hy : y ≤ 500) : rlR T b m M (dN e (d + 6) 222 [.ref b] (ov TM 8 b M m)) (pReq T (c, s, h, y)) := by
  rw [dN_at (j := 222) (as := [.ref b]) (m := ov TM 8 b M m) (ls := [some (.ref b), none, none, none]) M_c0 rfl rfl rfl, dFu, pReq_e, q222_0]
  obtain ⟨M1, g1, Z1, E1⟩ := m210 (e := e) (d := d + 2) (m := m) he Z
  have e1 : M1.1 1 = h := (E1.1 1 (by omega)).trans h1
  have e2 : M1.1 2 = s := (E1.1 2 (by omega)).trans h2
  have hb24 : nbS s ≤ 24 := W.1.2.2
  rw [g1, kV_r]
  have hn6 : nN (h 3) ≤ 6 := H.2.2.2.1.2.2
  have b3 : M1.1 1 3 = Int32.ofNat (nN (h 3)) := by rw [e1]; exact H.2.2.2.1.1
  rw [M_r0_2]
  (try simp only [bd_s])
  rw [M_a1 (by omega), b3]
  (try simp only [bd_s])
  have L := m213c (e := e) (d := d + 1) (m := m) he Z1 (n := nN (h 3)) (by omega)
  have tail : ∀ (X : bX) (i k : Int32) (t : Nat) (z : dErr), BAD T X z → ∀ j : Int32, runL e (dN e (d + 5)) 222 (t + 5) 2 [some (.ref b), some (.int i), some (.int k), none] [.int j, .ref b] (ov TM 8 b X m) = some (.inl none, ov TM 8 b X m) := by
    intro X i k t z B j
    rw [q222_2, b209 (d := d + 3) B.ne, kV_r, M_g0_16]
    (try simp only [bd_s])
    rw [if_neg B.ne, q222_3, q222_4, b210 (d := d + 2) B.ne, kV_r]
  cases hr : pNum T (nx T c) 0 ((nN (h 3) : Int) - 1) with
  | inl z =>
    rw [hr] at L
    obtain ⟨M2, g2, B, E2⟩ := L
    rw [g2, kI_r, b220 (d := d + 2) B.ne, kI_r, M_g0_16]
    (try simp only [bd_s])
    rw [if_neg B.ne, q222_1, tail M2 _ _ _ z B]
    exact ⟨M2, rfl, B, E1.f.tr E2.f⟩
  | inr r =>
    obtain ⟨-, -, r1, r2⟩ := pNum_r hr
    rw [hr] at L
    obtain ⟨M2, g2, Z2, E2⟩ := L
    have f1 : M2.1 1 = h := (E2.1 1 (by omega)).trans e1
    have f2 : M2.1 2 = s := (E2.1 2 (by omega)).trans e2
    have L2 := m220 (e := e) (d := d + 2) (m := m) he Z2 (by rw [f2]; exact W.1)
    rw [f2] at L2
    rw [g2, kI_r, pB_r]
    cases hr2 : pBox T (nx T (nx T c)) s with
    | inl z =>
      rw [hr2] at L2
      obtain ⟨M3, g3, B, E3⟩ := L2
      rw [g3, kI_r, M_g0_16]
      (try simp only [bd_s])
      rw [if_neg B.ne, q222_1, tail M3 _ _ _ z B]
      exact ⟨M3, rfl, B, E1.f.tr (E2.f.tr E3.f)⟩
    | inr k =>
      rw [hr2] at L2
      have L' : dN e (d + 5) 220 [.ref b] (ov TM 8 b M2 m) = rI (Int32.ofNat k) (ov TM 8 b M2 m) := L2
      obtain ⟨-, -, -, r4⟩ := pNum_r hr2
      have hk : k < nbS s := by omega
      have wb := W.2.2.2.1 k hk
      have w8 := wb.2.2.2.2.2.2.1
      have go := c_obs (e := e) (b := b) (m := m) (M := M2) (d := d + 2) (r := Int32.ofNat r) (k := k) (by omega) (by rw [f2]; exact wb.1) (by rw [f2]; exact w8)
      rw [f1, f2] at go
      rw [L', kI_r, M_g0_16, Z2.2.2, pB_r]
      (try simp only [bd_s])
      rw [if_pos (by trivial), go, kI_r]
      by_cases q : obsS s h (Int32.ofNat r) k = Int32.ofNat 0
      · have hx5 : okI 0 5 (Int32.ofNat r) := okI_of (by omega) (by omega) (by omega)
        have hxr : nN (Int32.ofNat r) < nN (h 3) := by rw [nN_o (by omega)]; omega
        have hw : nN (bx s k 8) < 3 := by
          have := w8.2.2
          rcases Nat.lt_or_ge (nN (bx s k 8)) 3 with z | z
          · exact z
          · exfalso
            have e8 : bx s k 8 = Int32.ofNat 3 := by rw [w8.1, show nN (bx s k 8) = 3 by omega]
            unfold obsS at q
            rw [if_pos e8] at q
            repeat' split at q
            all_goals exact absurd q (by decide +kernel)
        have gr := c_req (e := e) (b := b) (m := m) (M := M2) (d := d + 1) (r := Int32.ofNat r) (k := k) he (by omega) (by rw [f2]; exact W.1) hx5 (by rw [f2]; exact w8) (by rw [f2]; exact Or.inl (by omega))
        rw [f1, f2] at gr
        have Z3 := Z2.k2 (g := reqS s h (Int32.ofNat r) k)
        obtain ⟨M4, g4, Z4, E4⟩ := m210 (e := e) (d := d + 2) (m := m) he Z3
        rw [if_pos q, q222_1, q222_2, m209_0 (d := d + 3), kV_r, M_g0_16, Z2.2.2, decide_eq_true q, pC_t]
        (try simp only [bd_s])
        rw [if_pos (by trivial), gr, kI_r]
        have fin : ∀ j : Int32, ∀ t : Nat, runL e (dN e (d + 5)) 222 (t + 1) 4 [some (.ref b), none, none, none] [.int j] (ov TM 8 b (uA M2 2 (reqS s h (Int32.ofNat r) k)) m) = some (.inl none, ov TM 8 b M4 m) := by
          intro j t
          rw [q222_4, g4, kV_r]
        have res : rlR T b m M (some (.inl none, ov TM 8 b M4 m)) (.inr ((nx T (nx T c)), reqS s h (Int32.ofNat r) k, h, y)) := by
          refine ⟨M4, rfl, Z4, ?_, ?_, ?_, WS_req W ⟨hx5, hxr⟩ (Or.inl hw), H, hy, E1.f.tr (E2.f.tr (mF_2.tr E4.f))⟩
          · rw [E4.2 19 (by omega), uA_n (by omega), E2.2 19 (by omega), E1.2 19 (by omega)]; exact h19
          · rw [E4.1 2 (by omega), uA_s]
          · rw [E4.1 1 (by omega), uA_n (by omega)]; exact f1
        cases reqB s h (Int32.ofNat r) k with
        | true => rw [if_neg (by decide +kernel), fin]; exact res
        | false => rw [if_pos (by decide +kernel), q222_3, fin]; exact res
      · have B := flM_B Z2 (k := 3) (by omega) (by omega)
        rw [if_neg q, q222_2, m209_1 (d := d + 3) he Z2.2.2, kV_r, M_g0_16, decide_eq_false q]
        (try simp only [bd_s])
        rw [if_neg B.ne, q222_3, q222_4, b210 (d := d + 2) B.ne, kV_r]
        exact ⟨_, rfl, B, E1.f.tr (E2.f.tr flM_E.f)⟩
theorem r223 (he : e.1 ≤ b) (Z : RTc T M c) (h19 : M.1 0 19 = Int32.ofNat y) (h1 : M.1 1 = h) (h2 : M.1 2 = s) (W : WS (2500 + y) h s) (H : WH h) (hy : y ≤ 500) : rlR T b m M (dN e (d + 6) 223 [.ref b] (ov TM 8 b M m)) (pBack T (c, s, h, y)) := by
  rw [dN_at (j := 223) (as := [.ref b]) (m := ov TM 8 b M m) (ls := [some (.ref b), none]) M_c0 rfl rfl rfl, dFu, pBack_e, q223_0]
  obtain ⟨M1, g1, Z1, E1⟩ := m210 (e := e) (d := d + 2) (m := m) he Z
  have e1 : M1.1 1 = h := (E1.1 1 (by omega)).trans h1
  have e2 : M1.1 2 = s := (E1.1 2 (by omega)).trans h2
  have hb24 : nbS s ≤ 24 := W.1.2.2
  rw [g1, kV_r]
  have L := m220 (e := e) (d := d + 2) (m := m) he Z1 (by rw [e2]; exact W.1)
  rw [e2] at L
  have tail : ∀ (X : bX) (i : Int32) (t : Nat) (z : dErr), BAD T X z → ∀ j : Int32, runL e (dN e (d + 5)) 223 (t + 5) 2 [some (.ref b), some (.int i)] [.int j, .ref b] (ov TM 8 b X m) = some (.inl none, ov TM 8 b X m) := by
    intro X i t z B j
    rw [q223_2, b209 (d := d + 3) B.ne, kV_r, M_g0_16]
    (try simp only [bd_s])
    rw [if_neg B.ne, q223_3, b210 (d := d + 2) B.ne, kV_r]
  cases hr : pBox T (nx T c) s with
  | inl z =>
    rw [hr] at L
    obtain ⟨M2, g2, B, E2⟩ := L
    rw [g2, kI_r, M_g0_16]
    (try simp only [bd_s])
    rw [if_neg B.ne, q223_1, tail M2 _ _ z B]
    exact ⟨M2, rfl, B, E1.f.tr E2.f⟩
  | inr k =>
    rw [hr] at L
    have L' : dN e (d + 5) 220 [.ref b] (ov TM 8 b M1 m) = rI (Int32.ofNat k) (ov TM 8 b M1 m) := L
    obtain ⟨-, -, -, r4⟩ := pNum_r hr
    have hk : k < nbS s := by omega
    have gb := c_box (e := e) (b := b) (m := m) (M := M1) (d := d + 4) (k := k) (w := 5) (by omega) (by omega)
    rw [e2] at gb
    rw [L', kI_r, M_g0_16, Z1.2.2, pB_r]
    (try simp only [bd_s])
    rw [if_pos (by trivial), gb, kI_r]
    by_cases q : bx s k 5 = nM1
    · have B := flM_B Z1 (k := 3) (by omega) (by omega)
      rw [if_pos q, q223_2, m209_1 (d := d + 3) he Z1.2.2, kV_r, M_g0_16, decide_eq_true q]
      (try simp only [bd_s])
      rw [if_neg B.ne, q223_3, b210 (d := d + 2) B.ne, kV_r]
      exact ⟨_, rfl, B, E1.f.tr flM_E.f⟩
    · have gr := c_gbk (e := e) (b := b) (m := m) (M := M1) (d := d) (k := k) (Y := 2500 + y) he (by rw [e1, e2]; exact W) (by rw [e2]; exact hk)
      rw [e1, e2] at gr
      have Z3 := Z1.k2 (g := gbkS s h k)
      obtain ⟨M4, g4, Z4, E4⟩ := m210 (e := e) (d := d + 2) (m := m) he Z3
      rw [if_neg q, q223_1, q223_2, m209_0 (d := d + 3), kV_r, M_g0_16, Z1.2.2, decide_eq_false q, Bool.not_false, pC_t]
      (try simp only [bd_s])
      rw [if_pos (by trivial), gr, kV_r, q223_3, g4, kV_r]
      refine ⟨M4, rfl, Z4, ?_, ?_, ?_, WS_gbk W hk, H, hy, E1.f.tr (mF_2.tr E4.f)⟩
      · rw [E4.2 19 (by omega), uA_n (by omega), E1.2 19 (by omega)]; exact h19
      · rw [E4.1 2 (by omega), uA_s]
      · rw [E4.1 1 (by omega), uA_n (by omega)]; exact e1
theorem r224 (he : e.1 ≤ b) (Z : RTc T M c) (h19 : M.1 0 19 = Int32.ofNat y) (h1 : M.1 1 = h) (h2 : M.1 2 = s) (W : WS (2500 + y) h s) (H : WH h) (hy : y ≤ 500) : rlR T b m M (dN e (d + 7) 224 [.ref b] (ov TM 8 b M m)) (pMove T (c, s, h, y)) := by
  rw [dN_at (j := 224) (as := [.ref b]) (m := ov TM 8 b M m) (ls := [some (.ref b), none, none]) M_c0 rfl rfl rfl, dFu, pMove_e, q224_0]
  obtain ⟨M1, g1, Z1, E1⟩ := m210 (e := e) (d := d + 3) (m := m) he Z
  have e1 : M1.1 1 = h := (E1.1 1 (by omega)).trans h1
  have e2 : M1.1 2 = s := (E1.1 2 (by omega)).trans h2
  have hb24 : nbS s ≤ 24 := W.1.2.2
  rw [g1, kV_r]
  have L := m220 (e := e) (d := d + 3) (m := m) he Z1 (by rw [e2]; exact W.1)
  rw [e2] at L
  unfold pKept
  have tail : ∀ (X : bX) (i : Int32) (t : Nat) (z : dErr), BAD T X z → ∀ j : Int32, runL e (dN e (d + 6)) 224 (t + 5) 2 [some (.ref b), some (.int i), none] [.int j, .ref b] (ov TM 8 b X m) = some (.inl none, ov TM 8 b X m) := by
    intro X i t z B j
    rw [q224_2, b209 (d := d + 4) B.ne, kV_r, b210 (d := d + 3) B.ne, kV_r, b217 (d := d + 1) B.ne, kI_r, M_g0_16]
    (try simp only [bd_s])
    rw [if_neg B.ne, q224_3]
  cases hr : pBox T (nx T c) s with
  | inl z =>
    rw [hr] at L
    obtain ⟨M2, g2, B, E2⟩ := L
    rw [g2, kI_r, M_g0_16]
    (try simp only [bd_s])
    rw [if_neg B.ne, q224_1, tail M2 _ _ z B]
    exact ⟨M2, rfl, B, E1.f.tr E2.f⟩
  | inr k =>
    rw [hr] at L
    have L' : dN e (d + 6) 220 [.ref b] (ov TM 8 b M1 m) = rI (Int32.ofNat k) (ov TM 8 b M1 m) := L
    obtain ⟨-, -, -, r4⟩ := pNum_r hr
    have hk : k < nbS s := by omega
    have gg := c_isGone (e := e) (b := b) (m := m) (M := M1) (d := d + 4) (k := k) (by omega)
    rw [e2] at gg
    rw [L', kI_r, M_g0_16, Z1.2.2, pB_r]
    (try simp only [bd_s])
    rw [if_pos (by trivial), gg, kI_r]
    cases hg : gonB s k with
    | true =>
      have B := flM_B Z1 (k := 3) (by omega) (by omega)
      rw [if_neg (by decide +kernel), q224_2, m209_1 (d := d + 4) he Z1.2.2, kV_r, b210 (d := d + 3) B.ne, kV_r, b217 (d := d + 1) B.ne, kI_r, M_g0_16]
      (try simp only [bd_s])
      rw [if_neg B.ne, q224_3]
      exact ⟨_, rfl, B, E1.f.tr flM_E.f⟩
    | false =>
      obtain ⟨M2, g2, Z2, E2⟩ := m210 (e := e) (d := d + 3) (m := m) he Z1
      have f1 : M2.1 1 = h := (E2.1 1 (by omega)).trans e1
      have f2 : M2.1 2 = s := (E2.1 2 (by omega)).trans e2
      have L3 := m217 (e := e) (d := d + 1) (m := m) (c := (nx T c)) he Z2 (by rw [f2]; exact W.1) (by rw [f1]; exact H)
      rw [f1, f2] at L3
      rw [if_pos (by decide +kernel), q224_1, q224_2, m209_0 (d := d + 4), kV_r, g2, kV_r]
      show rlR T b m M _ (pBn (pFree T (nx T c) s h) _)
      cases hr2 : pFree T (nx T c) s h with
      | inl z =>
        rw [hr2] at L3
        obtain ⟨M3, w3, g3, B, E3⟩ := L3
        rw [g3, kI_r, M_g0_16]
        (try simp only [bd_s])
        rw [if_neg B.ne, q224_3]
        exact ⟨M3, rfl, B, E1.f.tr (E2.f.tr E3.f)⟩
      | inr r =>
        rw [hr2] at L3
        obtain ⟨r1, r2, r3⟩ := pFree_r H hr2
        obtain ⟨M3, g3, Z3, E3⟩ := L3
        have gl := c_lays (e := e) (b := b) (m := m) (M := M3) (d := d + 5) (k := k) (w := 4) (x := Int32.ofNat r.1) he (by omega) (by omega)
        rw [g3, kI_r, M_g0_16, Z3.2.2]
        (try simp only [bd_s])
        rw [if_pos (by trivial), gl, kV_r, q224_3]
        have f3 : M3.1 2 = s := (E3.1 2 (by omega)).trans f2
        refine ⟨_, rfl, Z3.k2, ?_, ?_, ?_, WS_4 W H hg r1, H, hy, E1.f.tr (E2.f.tr (E3.f.tr mF_2))⟩
        · rw [uA_n (by omega), E3.2 19 (by omega), E2.2 19 (by omega), E1.2 19 (by omega)]; exact h19
        · rw [uA_s, f3]
        · rw [uA_n (by omega), E3.1 1 (by omega)]; exact f1
theorem r225 (he : e.1 ≤ b) (Z : RTc T M c) (h19 : M.1 0 19 = Int32.ofNat y) (h1 : M.1 1 = h) (h2 : M.1 2 = s) (W : WS (2500 + y) h s) (H : WH h) (hy : y ≤ 500) : rlR T b m M (dN e (d + 6) 225 [.ref b] (ov TM 8 b M m)) (pStrike T (c, s, h, y)) := by
  rw [dN_at (j := 225) (as := [.ref b]) (m := ov TM 8 b M m) (ls := [some (.ref b), none, none]) M_c0 rfl rfl rfl, dFu, pStrike_e, q225_0]
  obtain ⟨M1, g1, Z1, E1⟩ := m210 (e := e) (d := d + 2) (m := m) he Z
  have e1 : M1.1 1 = h := (E1.1 1 (by omega)).trans h1
  have e2 : M1.1 2 = s := (E1.1 2 (by omega)).trans h2
  have hb24 : nbS s ≤ 24 := W.1.2.2
  rw [g1, kV_r]
  have L := m220 (e := e) (d := d + 2) (m := m) he Z1 (by rw [e2]; exact W.1)
  rw [e2] at L
  have tail : ∀ (X : bX) (i : Int32) (t : Nat) (z : dErr), BAD T X z → ∀ j : Int32, runL e (dN e (d + 5)) 225 (t + 5) 2 [some (.ref b), some (.int i), none] [.int j, .ref b] (ov TM 8 b X m) = some (.inl none, ov TM 8 b X m) := by
    intro X i t z B j
    rw [q225_2, b209 (d := d + 3) B.ne, kV_r, b210 (d := d + 2) B.ne, kV_r, b213 (d := d + 1) B.ne, kI_r, M_g0_16]
    (try simp only [bd_s])
    rw [if_neg B.ne, q225_3]
  cases hr : pBox T (nx T c) s with
  | inl z =>
    rw [hr] at L
    obtain ⟨M2, g2, B, E2⟩ := L
    rw [g2, kI_r, M_g0_16]
    (try simp only [bd_s])
    rw [if_neg B.ne, q225_1, tail M2 _ _ z B]
    exact ⟨M2, rfl, B, E1.f.tr E2.f⟩
  | inr k =>
    rw [hr] at L
    have L' : dN e (d + 5) 220 [.ref b] (ov TM 8 b M1 m) = rI (Int32.ofNat k) (ov TM 8 b M1 m) := L
    obtain ⟨-, -, -, r4⟩ := pNum_r hr
    have hk : k < nbS s := by omega
    have gg := c_isL (e := e) (b := b) (m := m) (M := M1) (d := d + 4) (x := Int32.ofNat k) (by rw [e2]; exact W.2.1)
    rw [e2] at gg
    rw [L', kI_r, M_g0_16, Z1.2.2, pB_r]
    (try simp only [bd_s])
    rw [if_pos (by trivial), gg, kI_r]
    cases hg : isLB s (Int32.ofNat k) with
    | false =>
      have B := flM_B Z1 (k := 3) (by omega) (by omega)
      rw [if_pos (by decide +kernel), q225_2, m209_1 (d := d + 3) he Z1.2.2, kV_r, b210 (d := d + 2) B.ne, kV_r, b213 (d := d + 1) B.ne, kI_r, M_g0_16]
      (try simp only [bd_s])
      rw [if_neg B.ne, q225_3]
      exact ⟨_, rfl, B, E1.f.tr flM_E.f⟩
    | true =>
      obtain ⟨p, hp1, hp2⟩ := anyB_iff.mp hg
      have hp3 : s (3 + p) = Int32.ofNat k := of_decide_eq_true hp2
      obtain ⟨M2, g2, Z2, E2⟩ := m210 (e := e) (d := d + 2) (m := m) he Z1
      have f1 : M2.1 1 = h := (E2.1 1 (by omega)).trans e1
      have f2 : M2.1 2 = s := (E2.1 2 (by omega)).trans e2
      have L3 := m213n (e := e) (d := d + 1) (m := m) he Z2 (lo := 1) (hi := 20) (by omega) (by omega)
      rw [if_neg (by decide +kernel), q225_1, q225_2, m209_0 (d := d + 3), kV_r, g2, kV_r, pC_t]
      cases hr2 : pNum T (nx T (nx T c)) 1 20 with
      | inl z =>
        rw [show ((20 : Nat) : Int) = 20 from rfl, hr2] at L3
        obtain ⟨M3, g3, B, E3⟩ := L3
        rw [g3, kI_r, M_g0_16]
        (try simp only [bd_s])
        rw [if_neg B.ne, q225_3]
        exact ⟨M3, rfl, B, E1.f.tr (E2.f.tr E3.f)⟩
      | inr v =>
        obtain ⟨-, -, v1, v2⟩ := pNum_r hr2
        rw [show ((20 : Nat) : Int) = 20 from rfl, hr2] at L3
        obtain ⟨M3, g3, Z3, E3⟩ := L3
        have f3 : M3.1 2 = s := (E3.1 2 (by omega)).trans f2
        have gl := c_stk (e := e) (b := b) (m := m) (M := M3) (d := d + 3) (k := k) (y := Int32.ofNat v) he (by omega) (by rw [f3]; exact W.2.1)
        rw [g3, kI_r, M_g0_16, Z3.2.2]
        (try simp only [bd_s])
        rw [if_pos (by trivial), gl, kV_r, q225_3]
        refine ⟨_, rfl, Z3.k2, ?_, ?_, ?_, WS_stk (Y := 2500 + y) (h := h) (s := s) (k := k) (p := p) (y := v) (by omega) W H hk hp1 hp3 (by omega), H, hy, E1.f.tr (E2.f.tr (E3.f.tr mF_2))⟩
        · rw [uA_n (by omega), E3.2 19 (by omega), E2.2 19 (by omega), E1.2 19 (by omega)]; exact h19
        · rw [uA_s, f3]
        · rw [uA_n (by omega), E3.1 1 (by omega)]; exact f1
theorem r226 (he : e.1 ≤ b) (Z : RTc T M c) (h19 : M.1 0 19 = Int32.ofNat y) (h1 : M.1 1 = h) (h2 : M.1 2 = s) (W : WS (2500 + y) h s) (H : WH h) (hy : y ≤ 500) : rlR T b m M (dN e (d + 7) 226 [.ref b] (ov TM 8 b M m)) (pPass T (c, s, h, y)) := by
  rw [dN_at (j := 226) (as := [.ref b]) (m := ov TM 8 b M m) (ls := [some (.ref b), none]) M_c0 rfl rfl rfl, dFu, pPass_e, q226_0]
  obtain ⟨M1, g1, Z1, E1⟩ := m210 (e := e) (d := d + 3) (m := m) he Z
  have e1 : M1.1 1 = h := (E1.1 1 (by omega)).trans h1
  have e2 : M1.1 2 = s := (E1.1 2 (by omega)).trans h2
  have hb24 : nbS s ≤ 24 := W.1.2.2
  rw [g1, kV_r]
  have L := m212 (e := e) (d := d + 4) (m := m) he Z1 (lo := 1) (hi := Int32.ofNat 50) (by omega)
  rw [show (Int32.ofNat 50).toInt = 50 from by decide +kernel] at L
  have e19 : M1.1 0 19 = Int32.ofNat y := by rw [E1.2 19 (by omega)]; exact h19
  have tail : ∀ (X : bX) (i : Int32) (t : Nat) (z : dErr), BAD T X z → ∀ j : Int32, runL e (dN e (d + 6)) 226 (t + 5) 2 [some (.ref b), some (.int i)] [.int j, .ref b] (ov TM 8 b X m) = some (.inl none, ov TM 8 b X m) := by
    intro X i t z B j
    rw [q226_2, b209 (d := d + 4) B.ne, kV_r, M_g0_16]
    (try simp only [bd_s])
    rw [if_neg B.ne, q226_3, b210 (d := d + 3) B.ne, kV_r]
  cases hr : pNum T (nx T c) 1 50 with
  | inl z =>
    rw [hr] at L
    obtain ⟨M2, g2, B, E2⟩ := L
    rw [g2, kI_r, M_g0_16]
    (try simp only [bd_s])
    rw [if_neg B.ne, q226_1, tail M2 _ _ z B]
    exact ⟨M2, rfl, B, E1.f.tr E2.f⟩
  | inr v =>
    obtain ⟨-, -, v1, v2⟩ := pNum_r hr
    rw [hr] at L
    have L' : dN e (d + 6) 212 [.ref b, .int (Int32.ofNat 1), .int (Int32.ofNat 50)] (ov TM 8 b M1 m) = rI (Int32.ofNat v) (ov TM 8 b M1 m) := L
    rw [L', kI_r, M_g0_16, Z1.2.2, pB_r]
    (try simp only [bd_s])
    rw [if_pos (by trivial), M_g0_19, e19]
    (try simp only [bd_s])
    rw [nAdd]
    by_cases q : 500 < y + v
    · have B := flM_B Z1 (k := 4) (by omega) (by omega)
      rw [if_pos (by rw [nLt (by omega) (by omega)]; exact q), q226_2, m209_1 (d := d + 4) he Z1.2.2, kV_r, M_g0_16, decide_eq_true q]
      (try simp only [bd_s])
      rw [if_neg B.ne, q226_3, b210 (d := d + 3) B.ne, kV_r]
      exact ⟨_, rfl, B, E1.f.tr flM_E.f⟩
    · have Z2 : RTc T (sF M1 19 (Int32.ofNat (y + v))) (nx T c) := by
        obtain ⟨⟨t1, t2, t3⟩, ⟨u1, u2, u3, u4, u5⟩, z3⟩ := Z1
        exact ⟨⟨t1, by rw [sF_n (by omega)]; exact t2, by rw [sF_i (by omega)]; exact t3⟩, ⟨by rw [sF_n (by omega)]; exact u1, by rw [sF_n (by omega)]; exact u2, by rw [sF_n (by omega)]; exact u3, by rw [sF_n (by omega)]; exact u4, u5⟩, by rw [sF_n (by omega)]; exact z3⟩
      have f1 : (sF M1 19 (Int32.ofNat (y + v))).1 1 = h := (sF_i (by omega)).trans e1
      have f2 : (sF M1 19 (Int32.ofNat (y + v))).1 2 = s := (sF_i (by omega)).trans e2
      have gy := c_years (e := e) (b := b) (m := m) (M := sF M1 19 (Int32.ofNat (y + v))) (d := d) (n := v) (Y := 2500 + y) he (by rw [f1, f2]; exact W) (by omega) (by omega)
      rw [f1, f2] at gy
      have Z3 := Z2.k2 (g := yrsS h v s)
      obtain ⟨M4, g4, Z4, E4⟩ := m210 (e := e) (d := d + 3) (m := m) he Z3
      rw [if_neg (by rw [nLt (by omega) (by omega)]; exact q), q226_1, q226_2, m209_0 (d := d + 4), kV_r, M_g0_16, Z1.2.2, decide_eq_false q, Bool.not_false, pC_t]
      (try simp only [bd_s])
      rw [if_pos (by trivial), M_g0_19, e19]
      (try simp only [bd_s])
      rw [nAdd, M_F19 he]
      (try simp only [bd_s])
      rw [gy, kV_r, q226_3, g4, kV_r]
      have wy : WS (2500 + (y + v)) h (yrsS h v s) := by
        have := WS_yrs (n := v) W (by omega)
        rwa [Nat.add_assoc] at this
      refine ⟨M4, rfl, Z4, ?_, ?_, ?_, wy, H, (show y + v ≤ 500 by omega), E1.f.tr (mF_19.tr (mF_2.tr E4.f))⟩
      · rw [E4.2 19 (by omega), uA_n (by omega), sF_s]
      · rw [E4.1 2 (by omega), uA_s]
      · rw [E4.1 1 (by omega), uA_n (by omega)]; exact f1
end
end

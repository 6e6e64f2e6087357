/-! ===== the lines of a text, as the reference reads them (printed by wip/whole/rl.py) ===== -/
noncomputable section
/-- what a line changes -/
def mF (M M' : bX) : Prop := (∀ i, i ≠ 0 → i ≠ 1 → i ≠ 2 → M'.1 i = M.1 i) ∧ ∀ k, k < 12 ∨ 17 < k → k ≠ 19 → M'.1 0 k = M.1 0 k
theorem mF.rf {M : bX} : mF M M := ⟨fun _ _ _ _ => rfl, fun _ _ _ => rfl⟩
theorem mF.tr {M M1 M2 : bX} (a : mF M M1) (b : mF M1 M2) : mF M M2 := ⟨fun i h1 h2 h3 => (b.1 i h1 h2 h3).trans (a.1 i h1 h2 h3), fun k h h2 => (b.2 k h h2).trans (a.2 k h h2)⟩
theorem mN.f {M M' : bX} (E : mN M M') : mF M M' := ⟨fun i h1 h2 _ => E.1 i h1 h2, fun k h _ => E.2 k h⟩
theorem mE.f {M M' : bX} (E : mE M M') : mF M M' := E.n.f
theorem mF_1 {M : bX} {g : sV} : mF M (uA M 1 g) := mN_1.f
theorem mF_2 {M : bX} {g : sV} : mF M (uA M 2 g) := ⟨fun i h1 h2 h3 => uA_n h3, fun k _ _ => by rw [uA_n (by omega)]⟩
theorem mF_19 {M : bX} {v : Int32} : mF M (sF M 19 v) := ⟨fun i h1 h2 h3 => sF_i h1, fun k _ h => sF_n h⟩
theorem BAD.c0 {T : dTok} {M M' : bX} {r : dErr} (Z : BAD T M r) (h : M'.1 0 = M.1 0) : BAD T M' r := by
  unfold BAD
  rw [h]
  exact Z
/-- a run of the reference does what the text says -/
def rlR (T : dTok) (b : Nat) (m : dMem) (M : bX) (run : Option dRes) (r : pRs) : Prop := match r with
  | .inl z => ∃ M', run = some (.inl none, ov TM 8 b M' m) ∧ BAD T M' z ∧ mF M M'
  | .inr st => ∃ M', run = some (.inl none, ov TM 8 b M' m) ∧ RTc T M' (nx T st.1) ∧ M'.1 0 19 = Int32.ofNat st.2.2.2 ∧ M'.1 2 = st.2.1 ∧ M'.1 1 = st.2.2.1 ∧ WS (2500 + st.2.2.2) st.2.2.1 st.2.1 ∧ WH st.2.2.1 ∧ st.2.2.2 ≤ 500 ∧ mF M M'
section
variable {e : dEnv} {d b c x Y y : Nat} {T : dTok} {M : bX} {h s : sV} {m : dMem}
theorem m213n (he : e.1 ≤ b) (Z : RTc T M c) {lo hi : Nat} (hlo : lo < 100000) (hhi : hi < 100000) : tkR T b m M (dN e (d + 4) 213 [.ref b, .int (Int32.ofNat lo), .int (Int32.ofNat hi)] (ov TM 8 b M m)) (nx T c) (Int32.ofNat lo) (pNum T c lo (hi : Int)) := by
  have := m213 (e := e) (d := d) (m := m) he Z (hi := Int32.ofNat hi) hlo
  rwa [nToI (by omega)] at this
theorem m213c (he : e.1 ≤ b) (Z : RTc T M c) {n : Nat} (hn : n < 1000) : tkR T b m M (dN e (d + 4) 213 [.ref b, .int (Int32.ofNat 0), .int (Int32.ofNat n - Int32.ofNat 1)] (ov TM 8 b M m)) (nx T c) (Int32.ofNat 0) (pNum T c 0 ((n : Int) - 1)) := by
  have := m213 (e := e) (d := d) (m := m) he Z (lo := 0) (hi := Int32.ofNat n - Int32.ofNat 1) (by omega)
  rwa [hiI (by omega)] at this
theorem RTc.k1 (Z : RTc T M c) {g : sV} : RTc T (uA M 1 g) c := Z.c0 (uA_n (by omega)) (uA_n (by omega))
theorem RTc.k2 (Z : RTc T M c) {g : sV} : RTc T (uA M 2 g) c := Z.c0 (uA_n (by omega)) (uA_n (by omega))
theorem r216_b (he : e.1 ≤ b) {n : Nat} (hn : n < 8) (h0 : ¬ M.1 0 16 = Int32.ofNat 0) (t : Nat) : ∃ X, runL e (dN e (d + 5)) 216 (t + 5) 4 [some (.ref b), some (.int (Int32.ofNat n))] [.int (Int32.ofNat (110 + n)), .ref (b + 1)] (ov TM 8 b M m) = some (.inl none, ov TM 8 b X m) ∧ X.1 0 = M.1 0 ∧ mF M X := by
  refine ⟨uA (uA M 1 (wr (M.1 1) (110 + n) (Int32.ofNat 0))) 1 (wr (wr (M.1 1) (110 + n) (Int32.ofNat 0)) 2 (wr (M.1 1) (110 + n) (Int32.ofNat 0) 2 + Int32.ofNat 0)), ?_, by rw [uA_n (by omega), uA_n (by omega)], mF_1.tr mF_1⟩
  have k16 : (uA M 1 (wr (M.1 1) (110 + n) (Int32.ofNat 0))).1 0 16 = M.1 0 16 := by rw [uA_n (by omega)]
  rw [q216_4, q216_5, c_flag0 (d := d + 4), kI_r, M_s1 he (by omega)]
  (try simp only [bd_s])
  rw [M_r0_2]
  (try simp only [bd_s])
  rw [nAdd, M_a1 (by omega), uA_s, wr_s]
  (try simp only [bd_s])
  rw [if_neg (by decide +kernel), q216_6, M_r0_2]
  (try simp only [bd_s])
  rw [M_a1 (by omega), uA_s]
  (try simp only [bd_s])
  rw [M_g0_16, k16]
  (try simp only [bd_s])
  rw [if_neg h0, q216_7, q216_8, c_flag0 (d := d + 4), kI_r, M_s1 he (by omega), uA_s]
  (try simp only [bd_s])
theorem r216 (he : e.1 ≤ b) (Z : RTc T M c) (h19 : M.1 0 19 = Int32.ofNat y) (h1 : M.1 1 = h) (h2 : M.1 2 = s) (W : WS (2500 + y) h s) (H : WH h) (hy : y ≤ 500) (S : hSt e x m) (hx : x ≤ b) : rlR T b m M (dN e (d + 6) 216 [.ref b] (ov TM 8 b M m)) (pClass T (c, s, h, y)) := by
  rw [dN_at (j := 216) (as := [.ref b]) (m := ov TM 8 b M m) (ls := [some (.ref b), none]) M_c0 rfl rfl rfl, dFu, pClass_e, q216_0]
  have hn8 : nN (h 2) ≤ 8 := H.2.2.1.2.2
  have a2 : M.1 1 2 = Int32.ofNat (nN (h 2)) := by rw [h1]; exact H.2.2.1.1
  rw [M_r0_2]
  (try simp only [bd_s])
  rw [M_a1 (by omega), a2]
  (try simp only [bd_s])
  by_cases q : nN (h 2) = 8
  · have B := flM_B Z (k := 4) (by omega) (by omega)
    rw [if_pos (by rw [q]), q216_2, m209_1 (d := d + 3) he Z.2.2, kV_r, b210 (d := d + 2) B.ne, kV_r, M_g0_16]
    (try simp only [bd_s])
    rw [if_neg B.ne, decide_eq_true q]
    exact ⟨_, rfl, B, flM_E.f⟩
  · obtain ⟨M1, g1, Z1, E1⟩ := m210 (e := e) (d := d + 2) (m := m) he Z
    have b2 : M1.1 1 2 = Int32.ofNat (nN (h 2)) := by rw [E1.1 1 (by omega)]; exact a2
    rw [if_neg (by rw [nEq (by omega) (by omega)]; exact q), q216_1, q216_2, m209_0 (d := d + 3), kV_r, g1, kV_r, M_g0_16, Z1.2.2, decide_eq_false q, Bool.not_false, pC_t]
    (try simp only [bd_s])
    rw [if_pos (by trivial), q216_3, M_r0_2]
    (try simp only [bd_s])
    rw [M_a1 (by omega), b2]
    (try simp only [bd_s])
    have L := m215 (e := e) (d := d + 1) (m := m) he Z1 (p := 46) (many := nN (h 2)) (by omega) (by omega)
    rw [E1.1 1 (by omega), h1] at L
    cases hr : pName T (nx T c) h 46 (nN (h 2)) with
    | inl z =>
      rw [hr] at L
      obtain ⟨M2, g2, B, E2⟩ := L
      have B1 : ∀ g : sV, BAD T (uA M2 1 g) z := fun g => B.c0 (uA_n (by omega))
      rw [g2, kV_r, M_r0_2]
      (try simp only [bd_s])
      rw [b213 (d := d + 1) B.ne, kI_r, nAdd, M_s1 he (by omega)]
      (try simp only [bd_s])
      rw [M_r0_2]
      (try simp only [bd_s])
      rw [b213 (d := d + 1) (B1 _).ne, kI_r, nAdd, M_s1 he (by omega), uA_uA]
      (try simp only [bd_s])
      rw [M_r0_2]
      (try simp only [bd_s])
      rw [M_g0_16]
      (try simp only [bd_s])
      rw [if_neg (B1 _).ne, nAdd]
      obtain ⟨X, g, X0, XF⟩ := r216_b (e := e) (d := d) (b := b) (m := m) (n := nN (h 2)) he (by omega) (B1 (wr ((uA M2 1 (wr (M2.1 1) (94 + nN (h 2)) (Int32.ofNat 1))).1 1) (102 + nN (h 2)) (Int32.ofNat 0))).ne (3999900 + 91)
      rw [g]
      exact ⟨X, rfl, (B1 _).c0 X0, E1.f.tr (E2.f.tr (mF_1.tr XF))⟩
    | inr w =>
      rw [hr] at L
      obtain ⟨hk, hL⟩ := pName_r hr
      obtain ⟨M2, g2, Z2, hM2, E2⟩ := L
      rw [E1.1 1 (by omega), h1] at hM2
      rw [g2, kV_r, M_r0_2, pB_r]
      (try simp only [bd_s])
      have L3 := m213n (e := e) (d := d + 1) (m := m) he Z2 (lo := 1) (hi := 50) (by omega) (by omega)
      cases hr2 : pNum T (nx T (nx T c)) 1 50 with
      | inl z =>
        rw [show ((50 : Nat) : Int) = 50 from rfl, hr2] at L3
        obtain ⟨M3, g3, B, E3⟩ := L3
        have B1 : ∀ g : sV, BAD T (uA M3 1 g) z := fun g => B.c0 (uA_n (by omega))
        rw [g3, kI_r, nAdd, M_s1 he (by omega)]
        (try simp only [bd_s])
        rw [M_r0_2]
        (try simp only [bd_s])
        rw [b213 (d := d + 1) (B1 _).ne, kI_r, nAdd, M_s1 he (by omega), uA_uA]
        (try simp only [bd_s])
        rw [M_r0_2]
        (try simp only [bd_s])
        rw [M_g0_16]
        (try simp only [bd_s])
        rw [if_neg (B1 _).ne, nAdd]
        obtain ⟨X, g, X0, XF⟩ := r216_b (e := e) (d := d) (b := b) (m := m) (n := nN (h 2)) he (by omega) (B1 (wr ((uA M3 1 (wr (M3.1 1) (94 + nN (h 2)) (Int32.ofNat 1))).1 1) (102 + nN (h 2)) (Int32.ofNat 0))).ne (3999900 + 91)
        rw [g]
        exact ⟨X, rfl, (B1 _).c0 X0, E1.f.tr (E2.f.tr (E3.f.tr (mF_1.tr XF)))⟩
      | inr p =>
        obtain ⟨-, -, p1, p2⟩ := pNum_r hr2
        rw [show ((50 : Nat) : Int) = 50 from rfl, hr2] at L3
        obtain ⟨M3, g3, Z3, E3⟩ := L3
        have hM3 : M3.1 1 = nmW T (nx T c) h (46 + 6 * nN (h 2)) := (E3.1 1 (by omega)).trans hM2
        rw [g3, kI_r, nAdd, M_s1 he (by omega), hM3, pB_r]
        (try simp only [bd_s])
        rw [M_r0_2]
        (try simp only [bd_s])
        have L4 := m213n (e := e) (d := d + 1) (m := m) he (Z3.k1 (g := wr (nmW T (nx T c) h (46 + 6 * nN (h 2))) (94 + nN (h 2)) (Int32.ofNat p))) (lo := 0) (hi := 50) (by omega) (by omega)
        cases hr3 : pNum T (nx T (nx T (nx T c))) 0 50 with
        | inl z =>
          rw [show ((50 : Nat) : Int) = 50 from rfl, hr3] at L4
          obtain ⟨M4, g4, B, E4⟩ := L4
          have B1 : ∀ g : sV, BAD T (uA M4 1 g) z := fun g => B.c0 (uA_n (by omega))
          rw [g4, kI_r, nAdd, M_s1 he (by omega)]
          (try simp only [bd_s])
          rw [M_r0_2]
          (try simp only [bd_s])
          rw [M_g0_16]
          (try simp only [bd_s])
          rw [if_neg (B1 _).ne, nAdd]
          obtain ⟨X, g, X0, XF⟩ := r216_b (e := e) (d := d) (b := b) (m := m) (n := nN (h 2)) he (by omega) (B1 (wr (M4.1 1) (102 + nN (h 2)) (Int32.ofNat 0))).ne (3999900 + 91)
          rw [g]
          exact ⟨X, rfl, (B1 _).c0 X0, E1.f.tr (E2.f.tr (E3.f.tr (mF_1.tr (E4.f.tr (mF_1.tr XF)))))⟩
        | inr v =>
          obtain ⟨-, -, v1, v2⟩ := pNum_r hr3
          rw [show ((50 : Nat) : Int) = 50 from rfl, hr3] at L4
          obtain ⟨M4, g4, Z4, E4⟩ := L4
          have hM4 : M4.1 1 = wr (nmW T (nx T c) h (46 + 6 * nN (h 2))) (94 + nN (h 2)) (Int32.ofNat p) := (E4.1 1 (by omega)).trans (uA_s _ _ _)
          have Z5 := Z4.k1 (g := wr (wr (nmW T (nx T c) h (46 + 6 * nN (h 2))) (94 + nN (h 2)) (Int32.ofNat p)) (102 + nN (h 2)) (Int32.ofNat v))
          have g5 := m211 (e := e) (d := d + 2) (m := m) (x := x) Z5 S hx (k := 15) (by omega)
          rw [g4, kI_r, nAdd, M_s1 he (by omega), hM4, pB_r]
          (try simp only [bd_s])
          rw [M_r0_2]
          (try simp only [bd_s])
          rw [M_g0_16, Z5.2.2]
          (try simp only [bd_s])
          rw [if_pos (by trivial), g5, kI_r, show wd 15 = wd 13 from rfl]
          have F5 : mF M (uA M4 1 (wr (wr (nmW T (nx T c) h (46 + 6 * nN (h 2))) (94 + nN (h 2)) (Int32.ofNat p)) (102 + nN (h 2)) (Int32.ofNat v))) := E1.f.tr (E2.f.tr (E3.f.tr (mF_1.tr (E4.f.tr mF_1))))
          have s2 : M4.1 2 = s := by rw [E4.1 2 (by omega), uA_n (by omega), E3.1 2 (by omega), E2.1 2 (by omega) (by omega), E1.1 2 (by omega), h2]
          have y2 : M4.1 0 19 = Int32.ofNat y := by rw [E4.2 19 (by omega), uA_n (by omega), E3.2 19 (by omega), E2.2 19 (by omega), E1.2 19 (by omega), h19]
          have hc1 : (nx T c) < tN T := Z1.2.1.2.2.2.2
          have k2v : ∀ f : Nat, wr (wr (wr (nmW T (nx T c) h (46 + 6 * nN (h 2))) (94 + nN (h 2)) (Int32.ofNat p)) (102 + nN (h 2)) (Int32.ofNat v)) (110 + nN (h 2)) (Int32.ofNat f) 2 = Int32.ofNat (nN (h 2)) := by
            intro f
            rw [wr_n (by omega), wr_n (by omega), wr_n (by omega), nmW_o (by omega)]
            exact H.2.2.1.1
          have wt : ∀ f : Nat, WS (2500 + y) (clsH T (nx T c) h p v f) s := fun f => by
            refine WS_told W ?_ ?_ ?_ (fun k hk2 => clsH_o (by omega) (by omega) (by omega) (by omega) (by omega))
            · unfold mkN
              rw [clsH_o (by omega) (by omega) (by omega) (by omega) (by omega), clsH_o (by omega) (by omega) (by omega) (by omega) (by omega)]
            · rw [clsH_e, if_pos rfl, nN_o (by omega)]
              omega
            · rw [clsH_o (by omega) (by omega) (by omega) (by omega) (by omega)]
              exact Nat.le_refl _
          cases hw : isW T (nx T (nx T (nx T (nx T c)))) (wd 13) with
          | true =>
            have Z6 := Z5.k1 (g := wr (wr (wr (nmW T (nx T c) h (46 + 6 * nN (h 2))) (94 + nN (h 2)) (Int32.ofNat p)) (102 + nN (h 2)) (Int32.ofNat v)) (110 + nN (h 2)) (Int32.ofNat 1))
            obtain ⟨M7, g7, Z7, E7⟩ := m210 (e := e) (d := d + 2) (m := m) he Z6
            have h7 : M7.1 1 = wr (wr (wr (nmW T (nx T c) h (46 + 6 * nN (h 2))) (94 + nN (h 2)) (Int32.ofNat p)) (102 + nN (h 2)) (Int32.ofNat v)) (110 + nN (h 2)) (Int32.ofNat 1) := (E7.1 1 (by omega)).trans (uA_s _ _ _)
            rw [if_neg (by decide +kernel), q216_5, c_flag1 (d := d + 4), kI_r, nAdd, M_s1 he (by omega), uA_s]
            (try simp only [bd_s])
            rw [M_r0_2]
            (try simp only [bd_s])
            (try rw [nAdd])
            rw [M_a1 (by omega), uA_s, wr_s]
            (try simp only [bd_s])
            rw [if_pos (by trivial), g7, kV_r, q216_6, M_r0_2]
            (try simp only [bd_s])
            rw [M_a1 (by omega), h7, k2v]
            (try simp only [bd_s])
            rw [M_g0_16, Z7.2.2]
            (try simp only [bd_s])
            rw [if_pos (by trivial), q216_8, c_flag1 (d := d + 4), kI_r, nAdd, M_s1 he (by omega), h7]
            (try simp only [bd_s])
            refine ⟨_, rfl, Z7.k1, ?_, ?_, ?_, wt 1, WH_cls H Z.1.1 hc1 hk q (by omega) (by omega) (by omega) (by omega), hy, F5.tr (mF_1.tr (E7.f.tr mF_1))⟩
            · rw [uA_n (by omega), E7.2 19 (by omega), uA_n (by omega), uA_n (by omega)]; exact y2
            · rw [uA_n (by omega), E7.1 2 (by omega), uA_n (by omega), uA_n (by omega)]; exact s2
            · rw [uA_s]
              rfl
          | false =>
            have Z6 := Z5.k1 (g := wr (wr (wr (nmW T (nx T c) h (46 + 6 * nN (h 2))) (94 + nN (h 2)) (Int32.ofNat p)) (102 + nN (h 2)) (Int32.ofNat v)) (110 + nN (h 2)) (Int32.ofNat 0))
            rw [if_pos (by decide +kernel), q216_4, q216_5, c_flag0 (d := d + 4), kI_r, nAdd, M_s1 he (by omega), uA_s]
            (try simp only [bd_s])
            rw [M_r0_2]
            (try simp only [bd_s])
            (try rw [nAdd])
            rw [M_a1 (by omega), uA_s, wr_s]
            (try simp only [bd_s])
            rw [if_neg (by decide +kernel), q216_6, M_r0_2]
            (try simp only [bd_s])
            rw [M_a1 (by omega), uA_s, k2v]
            (try simp only [bd_s])
            rw [M_g0_16, Z6.2.2]
            (try simp only [bd_s])
            rw [if_pos (by trivial), q216_8, c_flag1 (d := d + 4), kI_r, nAdd, M_s1 he (by omega), uA_s]
            (try simp only [bd_s])
            refine ⟨_, rfl, Z6.k1, ?_, ?_, ?_, wt 0, WH_cls H Z.1.1 hc1 hk q (by omega) (by omega) (by omega) (by omega), hy, F5.tr (mF_1.tr mF_1)⟩
            · rw [uA_n (by omega), uA_n (by omega), uA_n (by omega)]; exact y2
            · rw [uA_n (by omega), uA_n (by omega), uA_n (by omega)]; exact s2
            · rw [uA_s]
              rfl
end
end

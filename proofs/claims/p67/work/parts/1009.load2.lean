/-! ===== the class loads ===== -/
noncomputable section
/-- the class's blocks but the parser's and the draft's -/
theorem sys_fr {x : Nat} {R I I2 H S D : bX} {Ar : Nat → bX} {m m2 : dMem} (Z : hSys x R I H S Ar m) (F : frP (x + 1) m m2) (hI : hB TI 6 (x + 1) I2 m2) (hD : hB TA 19 (x + 1 + 6) D m2) : hSys x R I2 H S (seA Ar 2 D) m2 := by
  obtain ⟨z1, z2, z3, z4, z5⟩ := Z
  refine ⟨hB_mem z1 (fun i hi => F _ (by omega)), hI, hB_mem z3 (fun i hi => F _ (by omega)), hB_mem z4 (fun i hi => F _ (by omega)), fun j hj => ?_⟩
  by_cases q : j = 2
  · subst q
    rw [seA_s]
    exact hD
  · rw [seA_n q]
    have b := oA_b j hj
    have dj := oA_dj j hj 2 (by omega) q
    have o2 : oA 2 = 7 := rfl
    exact hB_mem (z5 j hj) (fun i hi => F _ (by omega))
/-- below the class and behind it nothing changes -/
def frO (x : Nat) (m m2 : dMem) : Prop := ∀ q, q < x ∨ x + 259 ≤ q → m2.1 q = m.1 q
theorem frO.tr {x : Nat} {m m1 m2 : dMem} (a : frO x m m1) (b : frO x m1 m2) : frO x m m2 := fun q hq => (b q hq).trans (a q hq)
theorem frm.o {x : Nat} {m m2 : dMem} (a : frm x m m2) : frO x m m2 := a.1
theorem hSys_1 {x : Nat} {R I H S : bX} {Ar : Nat → bX} {m m2 : dMem} (Z : hSys x R I H S Ar m) (h : m2.1 = m.1) : hSys x R I H S Ar m2 := by
  obtain ⟨z1, z2, z3, z4, z5⟩ := Z
  exact ⟨hB_mem z1 (fun i _ => by rw [h]), hB_mem z2 (fun i _ => by rw [h]), hB_mem z3 (fun i _ => by rw [h]), hB_mem z4 (fun i _ => by rw [h]), fun j hj => hB_mem (z5 j hj) (fun i _ => by rw [h])⟩
def ldR (T : dTok) (x : Nat) (R H S : bX) (Ar : Nat → bX) (m : dMem) (run : Option dRes) (r : pRs) : Prop := match r with
  | .inl z => ∃ m2 I2 Ar2, run = some (.inr 3, m2) ∧ hSys x R I2 H S Ar2 m2 ∧ (∀ i, i ≠ 2 → Ar2 i = Ar i) ∧ I2.1 1 1 = Int32.ofNat 0 ∧ I2.1 0 2 = Int32.ofNat z.1 ∧ I2.1 0 3 = Int32.ofNat (tPl T z.2) ∧ frO x m m2 ∧ m2.2 = (m.2.1 + 1 + 1, m.2.2 + 6 + 6)
  | .inr st => ∃ m2 I2 Ar2, run = rI (st.2.1 1) m2 ∧ hSys x (uA R 0 (wr (R.1 0) 6 (Int32.ofNat 1))) I2 (uA H 0 (wr (H.1 0) 2 (Int32.ofNat 0))) (uA S 2 (wr (wr (S.1 2) 0 (Int32.ofNat 0)) 1 (Int32.ofNat 0))) Ar2 m2 ∧ OKA (2500 + st.2.2.2) (Ar2 0) st.2.2.1 st.2.1 ∧ st.2.2.2 ≤ 500 ∧ (∀ i, i ≠ 2 → i ≠ 0 → Ar2 i = Ar i) ∧ I2.1 1 1 = Int32.ofNat 0 ∧ I2.1 0 2 = Int32.ofNat 0 ∧ I2.1 0 3 = nM1 ∧ frO x m m2 ∧ m2.2 = m.2
section
variable {e : dEnv} {d x : Nat} {R I H S : bX} {Ar : Nat → bX} {m : dMem}
theorem a89_2 (Z : hSys x R I H S Ar m) {h : Nat} (hh : I.1 1 1 = Int32.ofNat h) (h6 : h ≤ 600) {y : Int32} (hx : rngB 0 (h : Int) y = false) : dN e (d + 16) 89 [.ref x, .int y] m = dTh 2 m := by
  have hR := Z.1
  have hI := Z.2.1
  refine en89 (hR_c0 hR) fun t ht => ?_
  obtain ⟨u, rfl⟩ := fu 9 ht rfl
  by_cases q : y < Int32.ofNat 0
  · rw [q89_0, if_pos q, q89_1]
  · have q2 : Int32.ofNat h < y := by
      rw [Int32.lt_iff_toInt_lt, nToI (by omega)] at q ⊢
      unfold rngB at hx
      rw [decide_eq_true (by omega), Bool.true_and] at hx
      have := of_decide_eq_false hx
      omega
    rw [q89_0, if_neg q, hR_r0_0 hR]
    (try simp only [bd_s])
    rw [hI_r0_0 hI]
    (try simp only [bd_s])
    rw [hI_g1_1 hI, hh]
    (try simp only [bd_s])
    rw [if_pos q2, q89_1]
theorem prR_held {T : dTok} {a : Nat} {m : dMem} {run : Option dRes} {r : pRs} (h : prR T a m run r) : ∃ m2 I2 A2, hB TI 6 a I2 m2 ∧ hB TA 19 (a + 6) A2 m2 := by
  cases r with
  | inl z => obtain ⟨m2, I2, A2, -, h1, h2, -⟩ := h; exact ⟨m2, I2, A2, h1, h2⟩
  | inr z => obtain ⟨m2, I2, A2, -, h1, h2, -⟩ := h; exact ⟨m2, I2, A2, h1, h2⟩
theorem a89 (he : e.1 ≤ x) (Z : hSys x R I H S Ar m) {h k : Nat} (hh : I.1 1 1 = Int32.ofNat h) (h6 : h ≤ 600) (hk : k ≤ h) {B : Nat → Nat} (hB2 : ∀ j, B j < 256) (hb : ∀ j, j < h → I.1 2 j = sg8 (B j)) (St : hSt e x m) : ∃ T, TOK T ∧ tB T = B ∧ tE T = k ∧ ∀ sj hj, ldR T x R H S Ar m (dN e (d + 16) 89 [.ref x, .int (Int32.ofNat k)] m) (textP T sj hj) := by
  have hR := Z.1
  have hI := Z.2.1
  have hD : hB TA 19 (x + 1 + 6) (Ar 2) m := Z.2.2.2.2 2 (by omega)
  obtain ⟨T, t1, t2, t3, L⟩ := n59 (e := e) (d := d + 1) (x := x) (a := x + 1) (B := B) (n := k) (by omega) hI hD (by omega) hB2 (fun j hj => hb j (by omega)) St (by omega)
  refine ⟨T, t1, t2, t3, fun sj hj => ?_⟩
  have L1 := L sj hj
  rw [dN_at (j := 89) (as := [.ref x, .int (Int32.ofNat k)]) (m := m) (ls := [some (.ref x), some (.int (Int32.ofNat k)), none]) (hR_c0 hR) rfl rfl rfl, dFu, q89_0, if_neg (by rw [nLt (by omega) (by omega)]; omega), hR_r0_0 hR]
  (try simp only [bd_s])
  rw [hI_r0_0 hI]
  (try simp only [bd_s])
  rw [hI_g1_1 hI, hh]
  (try simp only [bd_s])
  rw [if_neg (by rw [nLt (by omega) (by omega)]; omega), q89_2, hR_r0_0 hR]
  (try simp only [bd_s])
  cases hr : textP T sj hj with
  | inl z =>
    rw [hr] at L1
    obtain ⟨m2, I2, A2, g1, f1, f2, f3, f4, f5, f6⟩ := L1
    have Z2 := sys_fr Z f5 f1 f2
    have Z3 := sys_I Z2 (uA I2 1 (wr (I2.1 1) 1 (Int32.ofNat 0)))
    have gp : pI e m2 (x + 1 + 1) 4 1 (Int32.ofNat 0) = some (ov TI 6 (x + 1) (uA I2 1 (wr (I2.1 1) 1 (Int32.ofNat 0))) m2) := by
      have := I_p1_1 (a := x + 1) (X := I2) (m := m2) (x := Int32.ofNat 0) (e := e) (by omega)
      rwa [ov_self f1] at this
    rw [g1, kI_r, hR_r0_0 Z2.1]
    (try simp only [bd_s])
    rw [hI_r0_0 f1]
    (try simp only [bd_s])
    rw [gp]
    (try simp only [bd_s])
    rw [if_pos (by decide +kernel)]
    refine ⟨((ov TI 6 (x + 1) (uA I2 1 (wr (I2.1 1) 1 (Int32.ofNat 0))) m2).1, m2.2.1 + 1, m2.2.2 + 6), uA I2 1 (wr (I2.1 1) 1 (Int32.ofNat 0)), seA Ar 2 A2, rfl, hSys_1 Z3 rfl, fun i hi => seA_n hi, by rw [uA_s, wr_s], by rw [uA_n (by omega)]; exact f3, by rw [uA_n (by omega)]; exact f4, fun q hq => ?_, ?_⟩
    · show (ov TI 6 (x + 1) (uA I2 1 (wr (I2.1 1) 1 (Int32.ofNat 0))) m2).1 q = m.1 q
      rw [ov_out (by omega)]
      exact f5 q (by omega)
    · rw [f6]
  | inr st =>
    rw [hr] at L1
    obtain ⟨c, s, hh2, y⟩ := st
    obtain ⟨m2, I2, A2, g1, f1, f2, W, f3, f4, f5, f6, f7⟩ := L1
    have Z2 := sys_fr Z f6 f1 f2
    have Z3 := sys_I Z2 (uA I2 1 (wr (I2.1 1) 1 (Int32.ofNat 0)))
    have gp : pI e m2 (x + 1 + 1) 4 1 (Int32.ofNat 0) = some (ov TI 6 (x + 1) (uA I2 1 (wr (I2.1 1) 1 (Int32.ofNat 0))) m2) := by
      have := I_p1_1 (a := x + 1) (X := I2) (m := m2) (x := Int32.ofNat 0) (e := e) (by omega)
      rwa [ov_self f1] at this
    have h0 := Z3.2.2.2.2 0 (by omega)
    have h2 := Z3.2.2.2.2 2 (by omega)
    rw [seA_n (by omega)] at h0
    rw [seA_s] at h2
    obtain ⟨A', gc, EQ⟩ := k_copyM (e := e) (d := d + 13) (a := x + 26) (a2 := x + 7) h0 h2 (by omega) (by omega)
    have Z4 := sys_A Z3 (i := 0) (by omega) A'
    have gz : pZ e (ov TA 19 (x + oA 0) A' (ov TI 6 (x + 1) (uA I2 1 (wr (I2.1 1) 1 (Int32.ofNat 0))) m2)) x 9 6 (Int32.ofNat 1) = some (ov TR 1 x (uA R 0 (wr (R.1 0) 6 (Int32.ofNat 1))) (ov TA 19 (x + oA 0) A' (ov TI 6 (x + 1) (uA I2 1 (wr (I2.1 1) 1 (Int32.ofNat 0))) m2))) := by
      have := ov_pZ (T := TR) (n := 1) (a := x) (i := 0) (X := R) (m := ov TA 19 (x + oA 0) A' (ov TI 6 (x + 1) (uA I2 1 (wr (I2.1 1) 1 (Int32.ofNat 0))) m2)) (e := e) (c := 9) (k := 6) (x := true) (by omega) he rfl rfl
      rw [ov_self Z4.1] at this
      exact this
    have Z5 := sys_R Z4 (uA R 0 (wr (R.1 0) 6 (Int32.ofNat 1)))
    have gf := y_for (e := e) (d := d + 14) (a := x + 64) Z5.2.2.1 (by omega)
    have Z6 := sys_H Z5 (uA H 0 (wr (H.1 0) 2 (Int32.ofNat 0)))
    have gs := z_for (e := e) (d := d + 14) (a := x + 218) Z6.2.2.2.1 (by omega)
    have Z7 := sys_S Z6 (uA S 2 (wr (wr (S.1 2) 0 (Int32.ofNat 0)) 1 (Int32.ofNat 0)))
    have h70 := Z7.2.2.2.2 0 (by omega)
    rw [seA_s] at h70
    have h70' : hB TA 19 (x + 26) A' _ := h70
    have W' : OKA (2500 + y) A' hh2 s := OKA_eq EQ W
    rw [g1, kI_r, hR_r0_0 Z2.1]
    (try simp only [bd_s])
    rw [hI_r0_0 f1]
    (try simp only [bd_s])
    rw [gp]
    (try simp only [bd_s])
    rw [if_neg (by decide +kernel), q89_3, hR_r0_1 Z3.1]
    (try simp only [bd_s])
    rw [hR_r0_0 Z3.1]
    (try simp only [bd_s])
    rw [hI_r0_1 Z3.2.1]
    (try simp only [bd_s])
    rw [show x + 1 + 6 = x + 7 by omega, gc, kV_r]
    show ldR T x R H S Ar m ((pZ e (ov TA 19 (x + oA 0) A' (ov TI 6 (x + 1) (uA I2 1 (wr (I2.1 1) 1 (Int32.ofNat 0))) m2)) x 9 6 (Int32.ofNat 1)).bind _) _
    rw [gz]
    (try simp only [bd_s])
    rw [hR_r0_3 Z5.1]
    (try simp only [bd_s])
    rw [gf, kV_r, hR_r0_4 Z6.1]
    (try simp only [bd_s])
    rw [gs, kV_r, hR_r0_1 Z7.1]
    (try simp only [bd_s])
    rw [hA_g0_13 h70']
    (try simp only [bd_s])
    refine ⟨_, _, _, ?_, Z7, by rw [seA_s]; exact W', f3, fun i h1 h2 => by rw [seA_n h2, seA_n h1], by rw [uA_s, wr_s], by rw [uA_n (by omega)]; exact f4, by rw [uA_n (by omega)]; exact f5, fun q hq => ?_, f7⟩
    · rw [W'.1.2.1]
    · have o0 : oA 0 = 26 := rfl
      rw [ov_out (by omega), ov_out (by omega), ov_out (by omega), ov_out (by omega), ov_out (by omega)]
      exact f6 q (by omega)
theorem a90 (Z : hSys x R I H S Ar m) : dN e (d + 1) 90 [.ref x] m = rI (I.1 0 2) m := by
  refine en90 (hR_c0 Z.1) fun t ht => ?_
  obtain ⟨u, rfl⟩ := fu 9 ht rfl
  rw [q90_0, hR_r0_0 Z.1]
  (try simp only [bd_s])
  rw [hI_g0_2 Z.2.1]
  rfl
theorem a91 (Z : hSys x R I H S Ar m) : dN e (d + 1) 91 [.ref x] m = rI (I.1 0 3) m := by
  refine en91 (hR_c0 Z.1) fun t ht => ?_
  obtain ⟨u, rfl⟩ := fu 9 ht rfl
  rw [q91_0, hR_r0_0 Z.1]
  (try simp only [bd_s])
  rw [hI_g0_3 Z.2.1]
  rfl
end
end

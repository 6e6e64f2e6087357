/-! ===== the class parses and loads ===== -/
noncomputable section
theorem dN_atT {e : dEnv} {d j : Nat} {as : List Value} {m : dMem} {ls : dLs} (h1 : dRecv j as m = true) (h2 : Nat.ble (dSum as) (dMl j) = true) (h3 : dTr j = true) (h4 : entL as ++ List.replicate (dPad j) none = ls) : dN e (d + 1) j as m = dFin true (runL e (dN e d) j dFuel 0 ls [] m) := by
  show (bif dRecv j as m && Nat.ble (dSum as) (dMl j) then dFin (dTr j) (runL e (dN e d) j dFuel 0 (entL as ++ List.replicate (dPad j) none) [] m) else none) = _
  rw [h1, h2, h3, h4]
  rfl
theorem dFin_i (x : Int32) (m : dMem) : dFin true (rI x m) = rI x m := rfl
theorem kV_h (E : Nat) (m : dMem) (h : Nat → dMem → Option dRes) (k : dMem → Option dRes) : kV (some (.inr E, m)) h k = h E m := rfl
theorem hJ59 {e : dEnv} {cl : Nat → List Value → dMem → Option dRes} {n : Nat} {m : dMem} {x y z : Option Value} : hJ (dhd 59) (runL e cl 59 (n + 1)) [x, y, z] 3 m = rZ (Int32.ofNat 0) m := rfl
theorem OKA_begin {A : bX} {sj hj : sV} {yr p q : Nat} (y1 : 1900 ≤ yr) (y2 : yr ≤ 2500) (p1 : 1 ≤ p) (p2 : p ≤ 6) (q1 : 1 ≤ q) (q2 : q ≤ 8) : OKA 2500 (uA (uA (uA A 0 (wr (wr (wr (wr (wr (A.1 0) 14 (Int32.ofNat yr)) 15 (Int32.ofNat p)) 16 (Int32.ofNat q)) 13 (Int32.ofNat 0)) 12 (Int32.ofNat 0))) 1 (wr (A.1 1) 4 (Int32.ofNat 0))) 6 (wr (A.1 6) 2 (Int32.ofNat 0))) (wr (wr (zrF 118 hj) 0 (Int32.ofNat p)) 1 (Int32.ofNat q)) (wr (zrF 315 sj) 0 (Int32.ofNat yr)) := by
  have z0 : nN (Int32.ofNat 0) = 0 := nN_o (by omega)
  have s0 : (wr (zrF 315 sj) 0 (Int32.ofNat yr)) 0 = Int32.ofNat yr := wr_s _ _ _
  have s1 : (wr (zrF 315 sj) 0 (Int32.ofNat yr)) 1 = Int32.ofNat 0 := by rw [wr_n (by omega)]; rfl
  have s2 : (wr (zrF 315 sj) 0 (Int32.ofNat yr)) 2 = Int32.ofNat 0 := by rw [wr_n (by omega)]; rfl
  have h0 : (wr (wr (zrF 118 hj) 0 (Int32.ofNat p)) 1 (Int32.ofNat q)) 0 = Int32.ofNat p := by rw [wr_n (by omega), wr_s]
  have h1 : (wr (wr (zrF 118 hj) 0 (Int32.ofNat p)) 1 (Int32.ofNat q)) 1 = Int32.ofNat q := wr_s _ _ _
  have h2 : (wr (wr (zrF 118 hj) 0 (Int32.ofNat p)) 1 (Int32.ofNat q)) 2 = Int32.ofNat 0 := by rw [wr_n (by omega), wr_n (by omega)]; rfl
  have h3 : (wr (wr (zrF 118 hj) 0 (Int32.ofNat p)) 1 (Int32.ofNat q)) 3 = Int32.ofNat 0 := by rw [wr_n (by omega), wr_n (by omega)]; rfl
  have nb : nbS (wr (zrF 315 sj) 0 (Int32.ofNat yr)) = 0 := by unfold nbS; rw [s1, z0]
  have nl : nlS (wr (zrF 315 sj) 0 (Int32.ofNat yr)) = 0 := by unfold nlS; rw [s2, z0]
  refine ⟨⟨?_, ?_, ?_, ⟨?_, ?_, ?_, ?_, fun c hc => ?_, fun r hr => ?_⟩, fun k hk => ?_, fun i hi => ?_⟩, ⟨?_, ?_, ?_, fun k hk => ?_, fun i hi => ?_, fun i j hij hj => ?_⟩, ⟨?_, ?_, ?_, ?_, fun c hc => ?_, fun r hr => ?_⟩⟩
  · rw [uA_n (by omega), uA_n (by omega), uA_s, wr_s, s2]
  · rw [uA_n (by omega), uA_n (by omega), uA_s, wr_n (by omega), wr_s, s1]
  · rw [uA_n (by omega), uA_n (by omega), uA_s, wr_n (by omega), wr_n (by omega), wr_n (by omega), wr_n (by omega), wr_s, s0]
  · rw [uA_n (by omega), uA_n (by omega), uA_s, wr_n (by omega), wr_n (by omega), wr_n (by omega), wr_s, h0]
  · rw [uA_n (by omega), uA_n (by omega), uA_s, wr_n (by omega), wr_n (by omega), wr_s, h1]
  · rw [uA_n (by omega), uA_s, wr_s, h2]
  · rw [uA_s, wr_s, h3]
  · rw [h2, z0] at hc; omega
  · rw [h3, z0] at hr; omega
  · rw [nb] at hk; omega
  · rw [nl] at hi; omega
  · rw [s1]; exact okI_of (by omega) (by omega) (by omega)
  · rw [s2]; exact okI_of (by omega) (by omega) (by omega)
  · rw [s0]; exact okI_of (by omega) (by omega) (by omega)
  · rw [nb] at hk; omega
  · rw [nl] at hi; omega
  · rw [nl] at hj; omega
  · rw [h0]; exact okI_of (by omega) (by omega) (by omega)
  · rw [h1]; exact okI_of (by omega) (by omega) (by omega)
  · rw [h2]; exact okI_of (by omega) (by omega) (by omega)
  · rw [h3]; exact okI_of (by omega) (by omega) (by omega)
  · rw [h2, z0] at hc; omega
  · rw [h3, z0] at hr; omega
section
variable {e : dEnv} {d a c x Y y : Nat} {T : dTok} {I A : bX} {h s : sV} {m : dMem}
theorem n53m (he : e.1 ≤ a) (hI : hB TI 6 a I m) (Z : TKI T I) (hc : I.1 1 6 = nM1) : dN e (d + 1) 53 [.ref (a + 1)] m = some (.inl none, ov TI 6 a (setC I 0) m) := by
  have hb := Z.1.1
  have hm := ov_self hI
  refine en53 (by rw [← hm]; exact I_c1) fun t ht => ?_
  obtain ⟨u, rfl⟩ := fu 9 ht rfl
  conv => lhs; rw [← hm]
  rw [q53_0, I_g1_6, hc]
  simp only [bd_s]
  rw [I_g1_5, Z.2.1]
  simp only [bd_s]
  rw [nSub (by omega), if_pos (by rw [nMLt (by omega)]; trivial)]
  rw [show nM1 + Int32.ofNat 1 = Int32.ofNat 0 from by decide +kernel, I_p1_6 he]
  simp only [bd_s]
  rw [q53_1]
  rfl
theorem l61 (he : e.1 ≤ a) (hI : hB TI 6 a I m) (hA : hB TA 19 (a + 6) A m) (Z : TKI T I) (hc : I.1 1 6 = nM1) (h4 : I.1 0 4 = Int32.ofNat 0) (S : hSt e x m) (hx : x ≤ a) (sj hj : sV) : lnR T a I m (dN e (d + 5) 61 [.ref a] m) (headP T sj hj) := by
  have hl : 0 < tN T := Z.1.1.1
  have P0 : PS T a (setC I 0) A 0 0 (ov TI 6 a (setC I 0) m) := ⟨hB_ov, hB_other hA (by omega), setC_TK Z, setC_c, hl, by rw [setC_0]; exact h4⟩
  have S0 : hSt e x (ov TI 6 a (setC I 0) m) := S.fr (fun q hq => ov_out (by omega))
  rw [dN_at (j := 61) (as := [.ref a]) (m := m) (ls := [some (.ref a), none, none, none]) (hI_c0 hI) rfl rfl rfl, dFu, q61_0, hI_r0_0 hI]
  (try simp only [bd_s])
  rw [n53m (d := d + 3) he hI Z hc, kV_r]
  refine lnR_seq (I2 := setC I 0) (m2 := ov TI 6 a (setC I 0) m) ?_ frP_ov rfl (by rw [setC_0]) (by rw [setC_0])
  generalize ov TI 6 a (setC I 0) m = m0 at P0 S0 ⊢
  generalize setC I 0 = J at P0 ⊢
  have hl1 := nx_lt hl
  have hl2 := nx_lt hl1
  have hl3 := nx_lt hl2
  have hAm := P0.2.1
  conv => arg 5; rw [← P0.mm]
  unfold headP
  rw [hI_r0_0 P0.ii]
  (try simp only [bd_s])
  rw [p55 (d := d + 1) P0 S0 hx hl (k := 0) (by omega), kI_r]
  cases hw : isW T 0 (wd 0) with
  | false =>
    rw [p60_f (d := d + 3) he P0 hl]
    exact lnR_er hAm
  | true =>
    rw [p60_t (d := d + 3) P0, kV_r, pC_t, p74n (d := d + 2) he P0 hl (by omega) (by omega)]
    cases hr : pNum T (nx T 0) 1900 2500 with
    | inl z => exact lnR_er hAm
    | inr yr =>
      obtain ⟨-, -, y1, y2⟩ := pNum_r hr
      show lnR T a J m0 (kI (rI (Int32.ofNat yr) (ov TI 6 a (setC J (nx T 0)) m0)) dPass _) _
      rw [kI_r, pB_r, p74n (d := d + 2) he P0 hl1 (by omega) (by omega)]
      cases hr2 : pNum T (nx T (nx T 0)) 1 6 with
      | inl z => exact lnR_er hAm
      | inr p =>
        obtain ⟨-, -, p1, p2⟩ := pNum_r hr2
        show lnR T a J m0 (kI (rI (Int32.ofNat p) (ov TI 6 a (setC J (nx T (nx T 0))) m0)) dPass _) _
        rw [kI_r, pB_r, p74n (d := d + 2) he P0 hl2 (by omega) (by omega)]
        cases hr3 : pNum T (nx T (nx T (nx T 0))) 1 8 with
        | inl z => exact lnR_er hAm
        | inr q =>
          obtain ⟨-, -, q1, q2⟩ := pNum_r hr3
          show lnR T a J m0 (kI (rI (Int32.ofNat q) (ov TI 6 a (setC J (nx T (nx T (nx T 0)))) m0)) dPass _) _
          have g := k_begin (e := e) (d := d + 3) (a := a + 6) (A := A) (m := ov TI 6 a (setC J (nx T (nx T (nx T 0)))) m0) (y := Int32.ofNat yr) (p := Int32.ofNat p) (q := Int32.ofNat q) (by omega)
          rw [ov_self P0.aa] at g
          have OK := OKA_begin (A := A) (sj := sj) (hj := hj) (yr := yr) (p := p) (q := q) (by omega) (by omega) (by omega) (by omega) (by omega) (by omega)
          rw [kI_r, pB_r, hI_r0_1 P0.ii]
          (try simp only [bd_s])
          rw [g, kV_r]
          generalize (uA (uA (uA A 0 (wr (wr (wr (wr (wr (A.1 0) 14 (Int32.ofNat yr)) 15 (Int32.ofNat p)) 16 (Int32.ofNat q)) 13 (Int32.ofNat 0)) 12 (Int32.ofNat 0))) 1 (wr (A.1 1) 4 (Int32.ofNat 0))) 6 (wr (A.1 6) 2 (Int32.ofNat 0))) = A' at OK ⊢
          obtain ⟨mm, I2, A2, k1, k2, k3, k4, k5, k6, k7, k8⟩ := lnR_ok (c' := nx T (nx T (nx T 0))) (A' := A') P0 hl3 (show OKA (2500 + 0) A' _ _ from OK) (by omega)
          have e1 : mm = ov TA 19 (a + 6) A' (ov TI 6 a (setC J (nx T (nx T (nx T 0)))) m0) := by
            have := Option.some.inj k1
            exact (Prod.mk.inj this).2.symm
          rw [e1] at k2 k7 k8
          have k2' : PS T a I2 A2 (nx T (nx T (nx T 0))) 0 (ov TA 19 (a + 6) A' (ov TI 6 a (setC J (nx T (nx T (nx T 0)))) m0)) := k2
          have hl4 := nx_lt hl3
          have g5 := p53 (e := e) (d := d + 3) he k2' hl3
          rw [k2'.mm] at g5
          rw [hI_r0_0 k2'.1]
          (try simp only [bd_s])
          rw [g5, kV_r]
          exact ⟨_, _, _, rfl, k2'.set hl4, k3, k4, by rw [setC_0]; exact k5, by rw [setC_0]; exact k6, fun q hq => (frP_ov q hq).trans (k7 q hq), k8⟩
/-- how a parse ends -/
def prR (T : dTok) (a : Nat) (m : dMem) (run : Option dRes) (r : pRs) : Prop := match r with
  | .inl x => ∃ m2 I2 A2, run = rI (bI false) m2 ∧ hB TI 6 a I2 m2 ∧ hB TA 19 (a + 6) A2 m2 ∧ I2.1 0 2 = Int32.ofNat x.1 ∧ I2.1 0 3 = Int32.ofNat (tPl T x.2) ∧ frP a m m2 ∧ m2.2 = (m.2.1 + 1, m.2.2 + 6)
  | .inr st => ∃ m2 I2 A2, run = rI (bI true) m2 ∧ hB TI 6 a I2 m2 ∧ hB TA 19 (a + 6) A2 m2 ∧ OKA (2500 + st.2.2.2) A2 st.2.2.1 st.2.1 ∧ st.2.2.2 ≤ 500 ∧ I2.1 0 2 = Int32.ofNat 0 ∧ I2.1 0 3 = nM1 ∧ frP a m m2 ∧ m2.2 = m.2
theorem n59 {B : Nat → Nat} {n : Nat} (he : e.1 ≤ a) (hI : hB TI 6 a I m) (hA : hB TA 19 (a + 6) A m) (hn : n ≤ 600) (hB2 : ∀ j, B j < 256) (hb : ∀ j, j < n → I.1 2 j = sg8 (B j)) (S : hSt e x m) (hx : x ≤ a) : ∃ T, TOK T ∧ tB T = B ∧ tE T = n ∧ ∀ sj hj, prR T a m (dN e (d + 14) 59 [.ref a, .int (Int32.ofNat n)] m) (textP T sj hj) := by
  have hm := ov_self hI
  have hI1 : hB TI 6 a (uA I 0 (wr (wr (wr (I.1 0) 2 (Int32.ofNat 0)) 3 nM1) 4 (Int32.ofNat 0))) (ov TI 6 a (uA I 0 (wr (wr (wr (I.1 0) 2 (Int32.ofNat 0)) 3 nM1) 4 (Int32.ofNat 0))) m) := hB_ov
  obtain ⟨I', T, g49, Z, t1, t2, i0, i6, i11⟩ := n49 (e := e) (d := d + 11) (B := B) (n := n) he hI1 hn hB2 (fun j hj => by rw [uA_n (by omega)]; exact hb j hj)
  rw [ov_ov] at g49
  refine ⟨T, Z.1, t1, t2, fun sj hj => ?_⟩
  have hI2 : hB TI 6 a I' (ov TI 6 a I' m) := hB_ov
  have hA2 : hB TA 19 (a + 6) A (ov TI 6 a I' m) := hB_other hA (by omega)
  have S2 : hSt e x (ov TI 6 a I' m) := S.fr (fun q hq => ov_out (by omega))
  have j2 : I'.1 0 2 = Int32.ofNat 0 := by rw [i0, uA_s, wr_n (by omega), wr_n (by omega), wr_s]
  have j3 : I'.1 0 3 = nM1 := by rw [i0, uA_s, wr_n (by omega), wr_s]
  have j4 : I'.1 0 4 = Int32.ofNat 0 := by rw [i0, uA_s, wr_s]
  have L1 := l61 (d := d + 8) he hI2 hA2 Z i6 j4 S2 hx sj hj
  have F1 : frP a m (ov TI 6 a I' m) := frP_ov
  rw [dN_atT (j := 59) (as := [.ref a, .int (Int32.ofNat n)]) (m := m) (ls := [some (.ref a), some (.int (Int32.ofNat n)), none]) (hI_c0 hI) rfl rfl rfl, dFu]
  conv => arg 4; rw [← hm]
  rw [q59_0, I_p0_2 he]
  (try simp only [bd_s])
  rw [I_p0_3 he, uA_s, uA_uA]
  (try simp only [bd_s])
  rw [I_p0_4 he, uA_s, uA_uA]
  (try simp only [bd_s])
  rw [I_r0_0]
  (try simp only [bd_s])
  rw [g49, kV_r]
  unfold textP
  have M1 : (ov TI 6 a I' m).2 = m.2 := rfl
  generalize ov TI 6 a I' m = m' at L1 F1 hI2 hA2 S2 M1 ⊢
  cases hh : headP T sj hj with
  | inl z =>
    rw [hh] at L1
    obtain ⟨m2, I2, A2, g1, h1, h2, h3, h4, h5, h6⟩ := L1
    rw [g1, kV_h, hJ59, rZ_0, dFin_i]
    exact ⟨m2, I2, A2, rfl, h1, h2, h3, h4, fun q hq => (h5 q hq).trans (F1 q hq), by rw [h6, M1]⟩
  | inr st =>
    rw [hh] at L1
    obtain ⟨c2, s2, h2, y2⟩ := st
    obtain ⟨m2, I2, A2, g1, P, W, hy, k2, k3, F2, M2⟩ := L1
    have hl2 : c2 < tN T := P.2.2.2.2.1
    have g54 := p54 (e := e) (d := d + 12) P hl2
    rw [P.mm] at g54
    have S3 : hSt e x m2 := S2.fr (fun q hq => F2 q (by omega))
    have hbd := Z.1.b hl2
    have hkd : kd T c2 < 100 := by
      unfold kd
      split <;> omega
    -- the end
    have fin : ∀ (c3 : Nat) (s3 h3 : sV) (y3 : Nat) (m3 : dMem) (I3 A3 : bX) (t : Nat), PS T a I3 A3 c3 y3 m3 → OKA (2500 + y3) A3 h3 s3 → y3 ≤ 500 → I3.1 0 2 = Int32.ofNat 0 → I3.1 0 3 = nM1 → frP a m m3 → m3.2 = m.2 → prR T a m (dFin true (runL e (dN e (d + 13)) 59 (t + 9) 1 [some (.ref a), none, none] [] m3)) (pC (decide (kd T c3 = 0)) 1 c3 (.inr (c3, s3, h3, y3))) := by
      intro c3 s3 h3 y3 m3 I3 A3 t P3 W3 hy3 i2 i3 F3 M3
      have hl3 : c3 < tN T := P3.2.2.2.2.1
      have g3 := p54 (e := e) (d := d + 12) P3 hl3
      rw [P3.mm] at g3
      have hbd3 := Z.1.b hl3
      have hkd3 : kd T c3 < 100 := by
        unfold kd
        split <;> omega
      rw [q59_1, hI_r0_0 P3.1]
      (try simp only [bd_s])
      rw [g3, kI_r]
      by_cases q : kd T c3 = 0
      · have g4 := p60_1 (e := e) (d := d + 12) (c1 := c3) (k := Int32.ofNat 1) P3
        rw [P3.mm] at g4
        rw [if_pos (by rw [q]), q59_3, g4, kV_r, rZ_1, dFin_i, decide_eq_true q, pC_t]
        exact ⟨m3, I3, A3, rfl, P3.1, P3.2.1, W3, hy3, i2, i3, F3, M3⟩
      · have g4 := p60_0 (e := e) (d := d + 12) (c1 := c3) (k := 1) he P3 hl3
        rw [P3.mm] at g4
        rw [if_neg (by rw [nEq (by omega) (by omega)]; exact q), q59_2, q59_3, g4, decide_eq_false q, pC_f]
        obtain ⟨m4, I4, A4, f1, f2, f3, f4, f5, f6, f7⟩ := lnR_er (T := T) (a := a) (I := I3) (x := (1, c3)) P3.2.1
        rw [f1, kV_h, hJ59, rZ_0, dFin_i]
        exact ⟨m4, I4, A4, rfl, f2, f3, f4, f5, fun q hq => (f6 q hq).trans (F3 q hq), by rw [f7, M3]⟩
    rw [g1, kV_r, pB_r, hI_r0_0 P.1]
    (try simp only [bd_s])
    rw [g54, kI_r]
    by_cases q : kd T c2 = 59
    · have LL := l62_all (D := d + 9) he hx (l63_all (T := T) (e := e) (x := x) (a := a) he hx d 2 0 (by omega)) I2 A2 c2 y2 s2 h2 m2 P W hy S3
      rw [if_pos (by rw [q])]
      show prR T a m _ (pBn (bif decide (kd T c2 = 59) then lnsP T (lineX T 2) 600 (c2, s2, h2, y2) else .inr (c2, s2, h2, y2)) _)
      rw [decide_eq_true q]
      show prR T a m _ (pBn (lnsP T (lineX T 2) 600 (c2, s2, h2, y2)) _)
      cases hf : lnsP T (lineX T 2) 600 (c2, s2, h2, y2) with
      | inl z =>
        rw [hf] at LL
        obtain ⟨m4, I4, A4, f1, f2, f3, f4, f5, f6, f7⟩ := LL
        rw [f1, kV_h, hJ59, rZ_0, dFin_i]
        exact ⟨m4, I4, A4, rfl, f2, f3, f4, f5, fun q hq => (f6 q hq).trans ((F2 q hq).trans (F1 q hq)), by rw [f7, M2, M1]⟩
      | inr st =>
        rw [hf] at LL
        obtain ⟨c3, s3, h3, y3⟩ := st
        obtain ⟨m4, I4, A4, f1, P4, W4, hy4, f2, f3, F4, M4⟩ := LL
        rw [f1, kV_r, pB_r]
        exact fin c3 s3 h3 y3 m4 I4 A4 _ P4 W4 hy4 (f2.trans (k2.trans j2)) (f3.trans (k3.trans j3)) (fun q hq => (F4 q hq).trans ((F2 q hq).trans (F1 q hq))) (M4.trans (M2.trans M1))
    · rw [if_neg (by rw [nEq (by omega) (by omega)]; exact q)]
      show prR T a m _ (pBn (bif decide (kd T c2 = 59) then lnsP T (lineX T 2) 600 (c2, s2, h2, y2) else .inr (c2, s2, h2, y2)) _)
      rw [decide_eq_false q]
      exact fin c2 s2 h2 y2 m2 I2 A2 _ P W hy (k2.trans j2) (k3.trans j3) (fun q hq => (F2 q hq).trans (F1 q hq)) (M2.trans M1)
end
end

/-! ===== a line, lines and repeats, as the class reads them (printed by wip/whole/pl2.py) ===== -/
noncomputable section
theorem lnR_seq {T : dTok} {a : Nat} {I I2 : bX} {m m2 : dMem} {run : Option dRes} {r : pRs} (h : lnR T a I2 m2 run r) (f : frP a m m2) (g : m2.2 = m.2) (i2 : I2.1 0 2 = I.1 0 2) (i3 : I2.1 0 3 = I.1 0 3) : lnR T a I m run r := by
  cases r with
  | inl x =>
    obtain ⟨m3, I3, A3, h1, h2, h3, h4, h5, h6, h7⟩ := h
    exact ⟨m3, I3, A3, h1, h2, h3, h4, h5, fun q hq => (h6 q hq).trans (f q hq), by rw [h7, g]⟩
  | inr st =>
    obtain ⟨m3, I3, A3, h1, h2, h3, h4, h5, h6, h7, h8⟩ := h
    exact ⟨m3, I3, A3, h1, h2, h3, h4, h5.trans i2, h6.trans i3, fun q hq => (h7 q hq).trans (f q hq), h8.trans g⟩
theorem lnR_kV {T : dTok} {a : Nat} {I : bX} {m : dMem} {run : Option dRes} {r : pRs} (h : lnR T a I m run r) {k : dMem → Option dRes} (hk : ∀ m', k m' = some (.inl none, m')) : lnR T a I m (kV run dPass k) r := by
  cases r with
  | inl x =>
    obtain ⟨m3, I3, A3, h1, h2⟩ := h
    exact ⟨m3, I3, A3, by rw [h1]; rfl, h2⟩
  | inr st =>
    obtain ⟨m3, I3, A3, h1, h2⟩ := h
    exact ⟨m3, I3, A3, by rw [h1, kV_r, hk], h2⟩
theorem pRep_e {T : dTok} {rp : Nat → Nat → pSt → pRs} {dp : Bool} {c y : Nat} {s h : sV} : pRep T rp dp (c, s, h, y) = (pC dp 4 c (pBn (pNum T (nx T c) 1 9) fun t => pC (decide (kd T (nx T (nx T c)) = 40)) 1 (nx T (nx T c)) (rp t (nx T (nx T c)) (nx T (nx T c), s, h, y)))) := rfl
theorem frP_ov {a : Nat} {X : bX} {m : dMem} : frP a m (ov TI 6 a X m) := fun q hq => ov_out (by omega)
section
variable {e : dEnv} {d a c x Y y : Nat} {T : dTok} {I A : bX} {h s : sV} {m : dMem}
/-- the parser at another token -/
theorem PS.set (P : PS T a I A c y m) {c1 : Nat} (hl : c1 < tN T) : PS T a (setC I c1) A c1 y (ov TI 6 a (setC I c1) m) := ⟨hB_ov, P.aa, setC_TK P.2.2.1, setC_c, hl, by rw [setC_0]; exact P.2.2.2.2.2⟩
theorem l72 (he : e.1 ≤ a) (P : PS T a I A c y m) (W : OKA (2500 + y) A h s) (hy : y ≤ 500) : lnR T a I m (dN e (d + 5) 72 [.ref a] m) (pPass T (c, s, h, y)) := by
  have hl := P.2.2.2.2.1
  have hl1 := nx_lt hl
  have hl2 := nx_lt hl1
  have hl3 := nx_lt hl2
  have hl4 := nx_lt hl3
  have hAm := P.2.1
  have yb := W.y0
  rw [dN_at (j := 72) (as := [.ref a]) (m := m) (ls := [some (.ref a), none]) (hI_c0 P.1) rfl rfl rfl, dFu]
  conv => arg 5; rw [← P.mm]
  rw [pPass_e, q72_0]
  (try simp -implicitDefEqProofs only [hI_r0_0 (P.ii (c1 := c)), hI_r0_1 (P.ii (c1 := c)), hA_r0_0 (P.aa (c1 := c)), hA_r0_1 (P.aa (c1 := c)), hA_r0_5 (P.aa (c1 := c)), hA_r0_6 (P.aa (c1 := c)), hA_r1_0 (P.aa (c1 := c)), hA_g1_4 (P.aa (c1 := c)), hA_r6_0 (P.aa (c1 := c)), hA_g6_2 (P.aa (c1 := c)), hA_g0_13 (P.aa (c1 := c)), hA_g0_14 (P.aa (c1 := c)), hA_g0_15 (P.aa (c1 := c)), hA_g0_16 (P.aa (c1 := c)), bd_s])
  rw [p74n (d := d + 2) he P hl (by omega) (by omega)]
  cases hr : pNum T (nx T c) 1 50 with
  | inl z => exact lnR_er hAm
  | inr v =>
    obtain ⟨-, -, v1, v2⟩ := pNum_r hr
    show lnR T a I m (kI (rI (Int32.ofNat v) (ov TI 6 a (setC I (nx T c)) m)) dPass _) _
    rw [kI_r, pB_r, P.yy]
    (try simp only [bd_s])
    rw [nAdd]
    by_cases q : 500 < y + v
    · rw [if_pos (by rw [nLt (by omega) (by omega)]; exact q), q72_1, q72_2, p60_0 (d := d + 3) he P hl1, decide_eq_true q]
      exact lnR_er hAm
    · rw [if_neg (by rw [nLt (by omega) (by omega)]; exact q), q72_2, p60_1 (d := d + 3) P, kV_r, P.yy, decide_eq_false q, Bool.not_false, pC_t]
      (try simp only [bd_s])
      rw [nAdd, I_p0_4 he]
      (try simp only [bd_s])
      rw [I_r0_1]
      (try simp only [bd_s])
      have hA2 : hB TA 19 (a + 6) A (ov TI 6 a (uA (setC I (nx T c)) 0 (wr ((setC I (nx T c)).1 0) 4 (Int32.ofNat (y + v)))) m) := hB_other P.2.1 (by omega)
      obtain ⟨A', g, OK⟩ := k_pass (e := e) (d := d + 1) (a := a + 6) (m := ov TI 6 a (uA (setC I (nx T c)) 0 (wr ((setC I (nx T c)).1 0) 4 (Int32.ofNat (y + v)))) m) (by omega) W (n := v) (by omega) (by omega)
      rw [ov_self hA2] at g
      rw [g, kV_r]
      have Z1 := setC_TK (c := (nx T c)) P.2.2.1
      refine ⟨_, uA (setC I (nx T c)) 0 (wr ((setC I (nx T c)).1 0) 4 (Int32.ofNat (y + v))), A', rfl, ⟨hB_other hB_ov (by omega), hB_ov, ⟨Z1.1, ?_, fun i hi => ?_, fun j hj => ?_⟩, ?_, hl1, ?_⟩, ?_, (show y + v ≤ 500 by omega), ?_, ?_, fun q hq => ?_, rfl⟩
      · rw [uA_n (by omega)]; exact Z1.2.1
      · rw [uA_n (by omega), uA_n (by omega), uA_n (by omega)]; exact Z1.2.2.1 i hi
      · rw [uA_n (by omega)]; exact Z1.2.2.2 j hj
      · rw [uA_n (by omega)]; exact setC_c
      · rw [uA_s, wr_s]
      · rw [← Nat.add_assoc]; exact OK
      · rw [uA_s, wr_n (by omega), setC_0]
      · rw [uA_s, wr_n (by omega), setC_0]
      · rw [ov_out (by omega), ov_out (by omega)]
/-- a line -/
theorem l63 (he : e.1 ≤ a) (P : PS T a I A c y m) (W : OKA (2500 + y) A h s) (hy : y ≤ 500) (S : hSt e x m) (hx : x ≤ a) {rp : Nat → Nat → pSt → pRs} {dp : Bool} {k : Nat} (H : isW T c (wd 12) = true → lnR T a I m (dN e (d + 5) 73 [.ref a, .int (Int32.ofNat k)] m) (pRep T rp dp (c, s, h, y))) : lnR T a I m (dN e (d + 6) 63 [.ref a, .int (Int32.ofNat k)] m) (lineP T rp dp (c, s, h, y)) := by
  have hl := P.2.2.2.2.1
  have hAm := P.2.1
  have w : ∀ k, k < 15 → dN e (d + 5) 55 [.ref (a + 1), .ref (e.2 k)] m = rI (bI (isW T c (wd k))) m := fun k hk => by
    have := p55 (e := e) (d := d + 2) P S hx hl hk
    rwa [P.mm] at this
  rw [dN_at (j := 63) (as := [.ref a, .int (Int32.ofNat k)]) (m := m) (ls := [some (.ref a), some (.int (Int32.ofNat k))]) (hI_c0 P.1) rfl rfl rfl, dFu]
  unfold lineP
  rw [show (c, s, h, y).1 = c from rfl]
  rw [q63_0, hI_r0_0 P.1]
  (try simp only [bd_s])
  rw [w 1 (by omega), kI_r]
  by_cases z0 : isW T c (wd 1) = true
  · rw [z0, if_neg (by decide +kernel)]
    (try rw [if_pos rfl])
    exact lnR_kV (l64 (d := d) he P W hy S hx) (fun m' => rfl)
  have y0 : isW T c (wd 1) = false := by
    cases g : isW T c (wd 1) with
    | false => rfl
    | true => exact absurd g z0
  rw [y0, if_pos (by decide +kernel)]
  (try rw [if_neg Bool.false_ne_true])
  rw [q63_1, hI_r0_0 P.1]
  (try simp only [bd_s])
  rw [w 2 (by omega), kI_r]
  by_cases z1 : isW T c (wd 2) = true
  · rw [z1, if_neg (by decide +kernel)]
    (try rw [if_pos rfl])
    exact lnR_kV (l65 (d := d) he P W hy S hx) (fun m' => rfl)
  have y1 : isW T c (wd 2) = false := by
    cases g : isW T c (wd 2) with
    | false => rfl
    | true => exact absurd g z1
  rw [y1, if_pos (by decide +kernel)]
  (try rw [if_neg Bool.false_ne_true])
  rw [q63_2, hI_r0_0 P.1]
  (try simp only [bd_s])
  rw [w 3 (by omega), kI_r]
  by_cases z2 : isW T c (wd 3) = true
  · rw [z2, if_neg (by decide +kernel)]
    (try rw [if_pos rfl])
    exact lnR_kV (l66 (d := d) he P W hy) (fun m' => rfl)
  have y2 : isW T c (wd 3) = false := by
    cases g : isW T c (wd 3) with
    | false => rfl
    | true => exact absurd g z2
  rw [y2, if_pos (by decide +kernel)]
  (try rw [if_neg Bool.false_ne_true])
  rw [q63_3, hI_r0_0 P.1]
  (try simp only [bd_s])
  rw [w 4 (by omega), kI_r]
  by_cases z3 : isW T c (wd 4) = true
  · rw [z3, if_neg (by decide +kernel)]
    (try rw [if_pos rfl])
    exact lnR_kV (l67 (d := d) he P W hy) (fun m' => rfl)
  have y3 : isW T c (wd 4) = false := by
    cases g : isW T c (wd 4) with
    | false => rfl
    | true => exact absurd g z3
  rw [y3, if_pos (by decide +kernel)]
  (try rw [if_neg Bool.false_ne_true])
  rw [q63_4, hI_r0_0 P.1]
  (try simp only [bd_s])
  rw [w 5 (by omega), kI_r]
  by_cases z4 : isW T c (wd 5) = true
  · rw [z4, if_neg (by decide +kernel)]
    (try rw [if_pos rfl])
    exact lnR_kV (l68 (d := d) he P W hy) (fun m' => rfl)
  have y4 : isW T c (wd 5) = false := by
    cases g : isW T c (wd 5) with
    | false => rfl
    | true => exact absurd g z4
  rw [y4, if_pos (by decide +kernel)]
  (try rw [if_neg Bool.false_ne_true])
  rw [q63_5, hI_r0_0 P.1]
  (try simp only [bd_s])
  rw [w 6 (by omega), kI_r]
  by_cases z5 : isW T c (wd 6) = true
  · rw [z5, if_neg (by decide +kernel)]
    (try rw [if_pos rfl])
    exact lnR_kV (l69 (d := d) he P W hy) (fun m' => rfl)
  have y5 : isW T c (wd 6) = false := by
    cases g : isW T c (wd 6) with
    | false => rfl
    | true => exact absurd g z5
  rw [y5, if_pos (by decide +kernel)]
  (try rw [if_neg Bool.false_ne_true])
  rw [q63_6, hI_r0_0 P.1]
  (try simp only [bd_s])
  rw [w 7 (by omega), kI_r]
  by_cases z6 : isW T c (wd 7) = true
  · rw [z6, if_neg (by decide +kernel)]
    (try rw [if_pos rfl])
    exact lnR_kV (l70 (d := d) he P W hy) (fun m' => rfl)
  have y6 : isW T c (wd 7) = false := by
    cases g : isW T c (wd 7) with
    | false => rfl
    | true => exact absurd g z6
  rw [y6, if_pos (by decide +kernel)]
  (try rw [if_neg Bool.false_ne_true])
  rw [q63_7, hI_r0_0 P.1]
  (try simp only [bd_s])
  rw [w 8 (by omega), kI_r]
  by_cases z7 : isW T c (wd 8) = true
  · rw [z7, if_neg (by decide +kernel)]
    (try rw [if_pos rfl])
    obtain ⟨A', g, OK⟩ := k_lists (e := e) (d := d + 2) (a := a + 6) (m := m) (by omega) W
    rw [ov_self hAm] at g
    rw [hI_r0_1 P.1]
    (try simp only [bd_s])
    rw [g, kV_r, q63_12]
    have := lnR_ok P hl OK hy
    rwa [P.mm] at this
  have y7 : isW T c (wd 8) = false := by
    cases g : isW T c (wd 8) with
    | false => rfl
    | true => exact absurd g z7
  rw [y7, if_pos (by decide +kernel)]
  (try rw [if_neg Bool.false_ne_true])
  rw [q63_8, hI_r0_0 P.1]
  (try simp only [bd_s])
  rw [w 9 (by omega), kI_r]
  by_cases z8 : isW T c (wd 9) = true
  · rw [z8, if_neg (by decide +kernel)]
    (try rw [if_pos rfl])
    exact lnR_kV (l71 (d := d) he P W hy) (fun m' => rfl)
  have y8 : isW T c (wd 9) = false := by
    cases g : isW T c (wd 9) with
    | false => rfl
    | true => exact absurd g z8
  rw [y8, if_pos (by decide +kernel)]
  (try rw [if_neg Bool.false_ne_true])
  rw [q63_9, hI_r0_0 P.1]
  (try simp only [bd_s])
  rw [w 10 (by omega), kI_r]
  by_cases z9 : isW T c (wd 10) = true
  · rw [z9, if_neg (by decide +kernel)]
    (try rw [if_pos rfl])
    obtain ⟨A', g, OK⟩ := k_apr (e := e) (d := d + 2) (a := a + 6) (m := m) (by omega) W
    rw [ov_self hAm] at g
    rw [hI_r0_1 P.1]
    (try simp only [bd_s])
    rw [g, kI_r, q63_12]
    have := lnR_ok P hl OK hy
    rwa [P.mm] at this
  have y9 : isW T c (wd 10) = false := by
    cases g : isW T c (wd 10) with
    | false => rfl
    | true => exact absurd g z9
  rw [y9, if_pos (by decide +kernel)]
  (try rw [if_neg Bool.false_ne_true])
  rw [q63_10, hI_r0_0 P.1]
  (try simp only [bd_s])
  rw [w 11 (by omega), kI_r]
  by_cases z10 : isW T c (wd 11) = true
  · rw [z10, if_neg (by decide +kernel)]
    (try rw [if_pos rfl])
    exact lnR_kV (l72 (d := d) he P W hy) (fun m' => rfl)
  have y10 : isW T c (wd 11) = false := by
    cases g : isW T c (wd 11) with
    | false => rfl
    | true => exact absurd g z10
  rw [y10, if_pos (by decide +kernel)]
  (try rw [if_neg Bool.false_ne_true])
  rw [q63_11, hI_r0_0 P.1]
  (try simp only [bd_s])
  rw [w 12 (by omega), kI_r]
  cases z : isW T c (wd 12) with
  | true =>
    have g := p60_t (e := e) (d := d + 4) (c1 := c) (k := Int32.ofNat 1) P
    rw [P.mm] at g
    rw [g, kV_r, pC_t]
    exact lnR_kV (H z) (fun m' => rfl)
  | false =>
    have g := p60_f (e := e) (d := d + 4) (c1 := c) (k := 1) he P hl
    rw [P.mm] at g
    rw [g]
    exact lnR_er hAm
/-- lines -/
theorem l62 (he : e.1 ≤ a) (hx : x ≤ a) {f : pSt → pRs} {k D : Nat} (H : ∀ (I A : bX) (c y : Nat) (s h : sV) (m : dMem), PS T a I A c y m → OKA (2500 + y) A h s → y ≤ 500 → hSt e x m → lnR T a I m (dN e (D + 3) 63 [.ref a, .int (Int32.ofNat k)] m) (f (c, s, h, y))) : ∀ (n i : Nat) (I A : bX) (c y : Nat) (s h : sV) (m : dMem) (t : Nat), i + n = 600 → 3 * n + 3 ≤ t → PS T a I A c y m → OKA (2500 + y) A h s → y ≤ 500 → hSt e x m → lnR T a I m (runL e (dN e (D + 3)) 62 t 1 [some (.ref a), some (.int (Int32.ofNat k)), some (.int (Int32.ofNat i))] [] m) (lnsP T f n (c, s, h, y)) := by
  intro n
  induction n with
  | zero =>
    intro i I A c y s h m t hi ht P W hy S
    obtain ⟨u, rfl⟩ : ∃ u, t = u + 2 := ⟨t - 2, by omega⟩
    rw [q62_1, if_neg (by rw [nLt (by omega) (by omega)]; omega), q62_3]
    exact ⟨m, I, A, rfl, P, W, hy, rfl, rfl, fun _ _ => rfl, rfl⟩
  | succ n ih =>
    intro i I A c y s h m t hi ht P W hy S
    obtain ⟨u, rfl⟩ : ∃ u, t = u + 3 := ⟨t - 3, by omega⟩
    have hl := P.2.2.2.2.1
    have hl1 := nx_lt hl
    have g53 := p53 (e := e) (d := D + 2) he P hl
    rw [P.mm] at g53
    have P1 := P.set hl1
    have S1 : hSt e x (ov TI 6 a (setC I (nx T c)) m) := S.fr (fun q hq => ov_out (by omega))
    have L := H _ _ _ _ s h _ P1 W hy S1
    have e0 : lnsP T f (n + 1) (c, s, h, y) = pBn (f (nx T c, s, h, y)) fun st' => bif decide (kd T (nx T st'.1) = 59) then lnsP T f n (nx T st'.1, st'.2) else .inr (nx T st'.1, st'.2) := rfl
    rw [e0, q62_1, if_pos (by rw [nLt (by omega) (by omega)]; omega), hI_r0_0 P.1]
    (try simp only [bd_s])
    rw [g53, kV_r]
    cases hf : f (nx T c, s, h, y) with
    | inl z =>
      rw [hf] at L
      have L2 := lnR_seq (I := I) (m := m) L frP_ov rfl (by rw [setC_0]) (by rw [setC_0])
      obtain ⟨m3, I3, A3, h1, h2⟩ := L2
      exact ⟨m3, I3, A3, by rw [h1]; rfl, h2⟩
    | inr st =>
      rw [hf] at L
      obtain ⟨c2, s2, h2, y2⟩ := st
      obtain ⟨m3, I3, A3, g1, P3, W3, hy3, i2, i3, F3, M3⟩ := L
      rw [setC_0] at i2 i3
      have F3' : frP a m m3 := fun q hq => (F3 q hq).trans (frP_ov q hq)
      have M3' : m3.2 = m.2 := M3
      have hl2 : c2 < tN T := P3.2.2.2.2.1
      have hl3 := nx_lt hl2
      have g2 := p53 (e := e) (d := D + 2) he P3 hl2
      rw [P3.mm] at g2
      have P4 := P3.set hl3
      have g3 := p54 (e := e) (d := D + 2) P3 hl3
      have S4 : hSt e x (ov TI 6 a (setC I3 (nx T c2)) m3) := S.fr (fun q hq => (frP_ov q (by omega)).trans (F3' q (by omega)))
      rw [g1, kV_r, hI_r0_0 P3.1, pB_r]
      (try simp only [bd_s])
      rw [g2, kV_r, hI_r0_0 P4.1]
      (try simp only [bd_s])
      rw [g3, kI_r]
      have hb := P3.2.2.1.1.b hl3
      have hkd : kd T (nx T c2) < 100 := by
        unfold kd
        split <;> omega
      by_cases q : kd T (nx T c2) = 59
      · rw [if_pos (by rw [q]), q62_2, nAdd, decide_eq_true q]
        have L2 := ih (i + 1) _ _ _ _ s2 h2 _ (u + 1) (by omega) (by omega) P4 W3 hy3 S4
        exact lnR_seq L2 (fun q hq => (frP_ov q hq).trans (F3' q hq)) M3' (by rw [setC_0]; exact i2) (by rw [setC_0]; exact i3)
      · rw [if_neg (by rw [nEq (by omega) (by omega)]; exact q), decide_eq_false q]
        exact ⟨_, _, _, rfl, P4, W3, hy3, by rw [setC_0]; exact i2, by rw [setC_0]; exact i3, fun q hq => (frP_ov q hq).trans (F3' q hq), M3'⟩
/-- the turns of a repeat -/
theorem l73_l (he : e.1 ≤ a) (hx : x ≤ a) {f : pSt → pRs} {k D b tm : Nat} (hb : b < tN T) (htm : tm ≤ 9) (H : ∀ (I A : bX) (c y : Nat) (s h : sV) (m : dMem), PS T a I A c y m → OKA (2500 + y) A h s → y ≤ 500 → hSt e x m → lnR T a I m (dN e (D + 4) 62 [.ref a, .int (Int32.ofNat (k + 1))] m) (lnsP T f 600 (c, s, h, y))) : ∀ (n j : Nat) (I A : bX) (c y : Nat) (s h : sV) (m : dMem) (t : Nat), j + n = tm → 3 * n + 3 ≤ t → PS T a I A c y m → OKA (2500 + y) A h s → y ≤ 500 → hSt e x m → lnR T a I m (runL e (dN e (D + 4)) 73 t 5 [some (.ref a), some (.int (Int32.ofNat k)), some (.int (Int32.ofNat tm)), some (.int (Int32.ofNat b)), some (.int (Int32.ofNat j))] [] m) (repP T f n b (c, s, h, y)) := by
  intro n
  induction n with
  | zero =>
    intro j I A c y s h m t hi ht P W hy S
    obtain ⟨u, rfl⟩ : ∃ u, t = u + 2 := ⟨t - 2, by omega⟩
    rw [q73_5, if_neg (by rw [nLt (by omega) (by omega)]; omega), q73_8]
    exact ⟨m, I, A, rfl, P, W, hy, rfl, rfl, fun _ _ => rfl, rfl⟩
  | succ n ih =>
    intro j I A c y s h m t hi ht P W hy S
    obtain ⟨u, rfl⟩ : ∃ u, t = u + 3 := ⟨t - 3, by omega⟩
    have P1 := P.set hb
    have S1 : hSt e x (ov TI 6 a (setC I b) m) := S.fr (fun q hq => ov_out (by omega))
    have L := H _ _ _ _ s h _ P1 W hy S1
    have gp : pI e m (a + 1) 4 6 (Int32.ofNat b) = some (ov TI 6 a (setC I b) m) := by
      have := I_p1_6 (a := a) (X := I) (m := m) (x := Int32.ofNat b) he
      rwa [ov_self P.1] at this
    have e0 : repP T f (n + 1) b (c, s, h, y) = pBn (lnsP T f 600 (b, s, h, y)) fun st' => pC (decide (kd T st'.1 = 41)) 1 st'.1 (repP T f n b st') := rfl
    rw [e0, q73_5, if_pos (by rw [nLt (by omega) (by omega)]; omega), hI_r0_0 P.1]
    (try simp only [bd_s])
    rw [gp]
    (try simp only [bd_s])
    rw [nAdd]
    cases hf : lnsP T f 600 (b, s, h, y) with
    | inl z =>
      rw [hf] at L
      have L2 := lnR_seq (I := I) (m := m) L frP_ov rfl (by rw [setC_0]) (by rw [setC_0])
      obtain ⟨m3, I3, A3, h1, h2⟩ := L2
      exact ⟨m3, I3, A3, by rw [h1]; rfl, h2⟩
    | inr st =>
      rw [hf] at L
      obtain ⟨c2, s2, h2, y2⟩ := st
      obtain ⟨m3, I3, A3, g1, P3, W3, hy3, i2, i3, F3, M3⟩ := L
      rw [setC_0] at i2 i3
      have F3' : frP a m m3 := fun q hq => (F3 q hq).trans (frP_ov q hq)
      have M3' : m3.2 = m.2 := M3
      have hl2 : c2 < tN T := P3.2.2.2.2.1
      have g3 := p54 (e := e) (d := D + 3) P3 hl2
      rw [P3.mm] at g3
      have S3 : hSt e x m3 := S.fr (fun q hq => F3' q (by omega))
      rw [g1, kV_r, hI_r0_0 P3.1, pB_r]
      (try simp only [bd_s])
      rw [g3, kI_r]
      have hbd := P3.2.2.1.1.b hl2
      have hkd : kd T c2 < 100 := by
        unfold kd
        split <;> omega
      by_cases q : kd T c2 = 41
      · have g4 := p60_1 (e := e) (d := D + 3) (c1 := c2) (k := Int32.ofNat 1) P3
        rw [P3.mm] at g4
        rw [if_pos (by rw [q]), q73_7, g4, kV_r, nAdd, decide_eq_true q, pC_t]
        have L2 := ih (j + 1) _ _ _ _ s2 h2 _ (u + 1) (by omega) (by omega) P3 W3 hy3 S3
        exact lnR_seq L2 F3' M3' i2 i3
      · have g4 := p60_0 (e := e) (d := D + 3) (c1 := c2) (k := 1) he P3 hl2
        rw [P3.mm] at g4
        rw [if_neg (by rw [nEq (by omega) (by omega)]; exact q), q73_6, q73_7, g4, decide_eq_false q, pC_f]
        exact lnR_seq (lnR_er (x := (1, c2)) P3.2.1) F3' M3' i2 i3
/-- a repeat -/
theorem l73 (he : e.1 ≤ a) (hx : x ≤ a) {f : pSt → pRs} {k D : Nat} (hk : k < 2) (H : ∀ (I A : bX) (c y : Nat) (s h : sV) (m : dMem), PS T a I A c y m → OKA (2500 + y) A h s → y ≤ 500 → hSt e x m → lnR T a I m (dN e (D + 4) 62 [.ref a, .int (Int32.ofNat (k + 1))] m) (lnsP T f 600 (c, s, h, y))) (P : PS T a I A c y m) (W : OKA (2500 + y) A h s) (hy : y ≤ 500) (S : hSt e x m) : lnR T a I m (dN e (D + 5) 73 [.ref a, .int (Int32.ofNat k)] m) (pRep T (repP T f) true (c, s, h, y)) := by
  have hl := P.2.2.2.2.1
  have hl1 := nx_lt hl
  have hl2 := nx_lt hl1
  have hAm := P.2.1
  rw [dN_at (j := 73) (as := [.ref a, .int (Int32.ofNat k)]) (m := m) (ls := [some (.ref a), some (.int (Int32.ofNat k)), none, none, none]) (hI_c0 P.1) rfl rfl rfl, dFu]
  conv => arg 5; rw [← P.mm]
  rw [pRep_e, q73_0, if_pos (by rw [nLt (by omega) (by omega)]; omega), q73_2, p60_1 (d := D + 3) P, kV_r, pC_t, p74n (d := D + 2) he P hl (by omega) (by omega)]
  cases hr : pNum T (nx T c) 1 9 with
  | inl z => exact lnR_er hAm
  | inr tm =>
    obtain ⟨-, -, t1, t2⟩ := pNum_r hr
    show lnR T a I m (kI (rI (Int32.ofNat tm) (ov TI 6 a (setC I (nx T c)) m)) dPass _) _
    rw [kI_r, pB_r, hI_r0_0 P.ii]
    (try simp only [bd_s])
    rw [p53 (d := D + 3) he P hl1, kV_r, hI_r0_0 P.ii]
    (try simp only [bd_s])
    rw [p54 (d := D + 3) P hl2, kI_r]
    have hbd := P.2.2.1.1.b hl2
    have hkd : kd T (nx T (nx T c)) < 100 := by
      unfold kd
      split <;> omega
    by_cases q : kd T (nx T (nx T c)) = 40
    · rw [if_pos (by rw [q]), q73_4, p60_1 (d := D + 3) P, kV_r, decide_eq_true q, pC_t, hI_r0_0 P.ii]
      (try simp only [bd_s])
      rw [hI_g1_6 P.ii, setC_c]
      (try simp only [bd_s])
      have P2 := P.set hl2
      have S2 : hSt e x (ov TI 6 a (setC I (nx T (nx T c))) m) := S.fr (fun q hq => ov_out (by omega))
      have L := l73_l (e := e) (x := x) (f := f) (k := k) (D := D) (b := nx T (nx T c)) (tm := tm) he hx hl2 (by omega) H tm 0 _ _ _ _ s h _ (3999900 + 97) (by omega) (by omega) P2 W hy S2
      exact lnR_seq L frP_ov rfl (by rw [setC_0]) (by rw [setC_0])
    · rw [if_neg (by rw [nEq (by omega) (by omega)]; exact q), q73_3, q73_4, p60_0 (d := D + 3) he P hl2, decide_eq_false q]
      exact lnR_er hAm
theorem l73_0 (he : e.1 ≤ a) {rp : Nat → Nat → pSt → pRs} (P : PS T a I A c y m) : lnR T a I m (dN e (d + 5) 73 [.ref a, .int (Int32.ofNat 2)] m) (pRep T rp false (c, s, h, y)) := by
  have hl := P.2.2.2.2.1
  rw [dN_at (j := 73) (as := [.ref a, .int (Int32.ofNat 2)]) (m := m) (ls := [some (.ref a), some (.int (Int32.ofNat 2)), none, none, none]) (hI_c0 P.1) rfl rfl rfl, dFu]
  conv => arg 5; rw [← P.mm]
  rw [pRep_e, q73_0, if_neg (by decide +kernel), q73_1, q73_2, p60_0 (d := d + 3) he P hl]
  exact lnR_er P.2.1
theorem l62_all (he : e.1 ≤ a) (hx : x ≤ a) {f : pSt → pRs} {k D : Nat} (H : ∀ (I A : bX) (c y : Nat) (s h : sV) (m : dMem), PS T a I A c y m → OKA (2500 + y) A h s → y ≤ 500 → hSt e x m → lnR T a I m (dN e (D + 3) 63 [.ref a, .int (Int32.ofNat k)] m) (f (c, s, h, y))) : ∀ (I A : bX) (c y : Nat) (s h : sV) (m : dMem), PS T a I A c y m → OKA (2500 + y) A h s → y ≤ 500 → hSt e x m → lnR T a I m (dN e (D + 4) 62 [.ref a, .int (Int32.ofNat k)] m) (lnsP T f 600 (c, s, h, y)) := by
  intro I A c y s h m P W hy S
  rw [dN_at (j := 62) (as := [.ref a, .int (Int32.ofNat k)]) (m := m) (ls := [some (.ref a), some (.int (Int32.ofNat k)), none]) (hI_c0 P.1) rfl rfl rfl, dFu, q62_0]
  exact l62 he hx H 600 0 I A c y s h m _ (by omega) (by omega) P W hy S
/-- lines at every depth -/
theorem l63_all (he : e.1 ≤ a) (hx : x ≤ a) (d : Nat) : ∀ r k : Nat, k + r = 2 → ∀ (I A : bX) (c y : Nat) (s h : sV) (m : dMem), PS T a I A c y m → OKA (2500 + y) A h s → y ≤ 500 → hSt e x m → lnR T a I m (dN e (d + 3 * r + 6) 63 [.ref a, .int (Int32.ofNat k)] m) (lineX T r (c, s, h, y)) := by
  intro r
  induction r with
  | zero =>
    intro k hk I A c y s h m P W hy S
    have k2 : k = 2 := by omega
    subst k2
    exact l63 (d := d) he P W hy S hx (fun _ => l73_0 he P)
  | succ r ih =>
    intro k hk I A c y s h m P W hy S
    have L := l62_all (D := d + 3 * r + 3) he hx (ih (k + 1) (by omega))
    exact l63 (d := d + 3 * r + 3) he P W hy S hx (fun _ => l73 (D := d + 3 * r + 3) he hx (by omega) L P W hy S)
end
end

/-! ===== the lines of a text, as the class reads them (printed by wip/whole/pl.py) ===== -/
noncomputable section
theorem pClass_e {T : dTok} {c y : Nat} {s h : sV} : pClass T (c, s, h, y) = (pC (!decide (nN (h 2) = 8)) 4 c (pBn (pName T (nx T c) h 46 (nN (h 2))) fun _ => pBn (pNum T (nx T (nx T c)) 1 50) fun p => pBn (pNum T (nx T (nx T (nx T c))) 0 50) fun q =>
  bif isW T (nx T (nx T (nx T (nx T c)))) (wd 13) then .inr (nx T (nx T (nx T (nx T c))), s, clsH T (nx T c) h p q 1, y) else .inr (nx T (nx T (nx T c)), s, clsH T (nx T c) h p q 0, y))) := rfl
theorem pNew_e {T : dTok} {c y : Nat} {s h : sV} : pNew T (c, s, h, y) = (pC (decide (nbS s < 24) && !decide (fstS s h = nM1)) 4 c (pBn (pNum T (nx T c) 0 ((nN (h 2) : Int) - 1)) fun p => pBn (pNum T (nx T (nx T c)) 1800 (nN (s 0))) fun q =>
  bif isW T (nx T (nx T (nx T c))) (wd 14) then pBn (pFree T (nx T (nx T (nx T c))) s h) fun r => .inr (r.2, newS s (Int32.ofNat p) (Int32.ofNat q) (Int32.ofNat r.1), h, y) else .inr (nx T (nx T c), newS s (Int32.ofNat p) (Int32.ofNat q) (fstS s h), h, y))) := rfl
theorem pReader_e {T : dTok} {c y : Nat} {s h : sV} : pReader T (c, s, h, y) = (pC (!decide (nN (h 3) = 6)) 4 c (pBn (pName T (nx T c) h 4 (nN (h 3))) fun _ => pBn (pNum T (nx T (nx T c)) 1 4) fun p => .inr (nx T (nx T c), s, rdrH T (nx T c) h p, y))) := rfl
theorem pSeal_e {T : dTok} {c y : Nat} {s h : sV} : pSeal T (c, s, h, y) = (pBn (pKept T (nx T c) s) fun k => pBn (pNum T (nx T (nx T c)) (nN (s 0)) 9999) fun v => .inr (nx T (nx T c), lay s k 3 (Int32.ofNat v), h, y)) := rfl
theorem pReq_e {T : dTok} {c y : Nat} {s h : sV} : pReq T (c, s, h, y) = (pBn (pNum T (nx T c) 0 ((nN (h 3) : Int) - 1)) fun r => pBn (pBox T (nx T (nx T c)) s) fun k => pC (decide (obsS s h (Int32.ofNat r) k = Int32.ofNat 0)) 3 (nx T (nx T c)) (.inr (nx T (nx T c), reqS s h (Int32.ofNat r) k, h, y))) := rfl
theorem pBack_e {T : dTok} {c y : Nat} {s h : sV} : pBack T (c, s, h, y) = (pBn (pBox T (nx T c) s) fun k => pC (!decide (bx s k 5 = nM1)) 3 (nx T c) (.inr (nx T c, gbkS s h k, h, y))) := rfl
theorem pMove_e {T : dTok} {c y : Nat} {s h : sV} : pMove T (c, s, h, y) = (pBn (pKept T (nx T c) s) fun k => pBn (pFree T (nx T c) s h) fun r => .inr (r.2, lay s k 4 (Int32.ofNat r.1), h, y)) := rfl
theorem pStrike_e {T : dTok} {c y : Nat} {s h : sV} : pStrike T (c, s, h, y) = (pBn (pBox T (nx T c) s) fun k => pC (isLB s (Int32.ofNat k)) 3 (nx T c) (pBn (pNum T (nx T (nx T c)) 1 20) fun v => .inr (nx T (nx T c), stkS s k (Int32.ofNat v), h, y))) := rfl
theorem pPass_e {T : dTok} {c y : Nat} {s h : sV} : pPass T (c, s, h, y) = (pBn (pNum T (nx T c) 1 50) fun v => pC (!decide (500 < y + v)) 4 (nx T c) (.inr (nx T c, yrsS h v s, h, y + v))) := rfl
theorem dN_at {e : dEnv} {d j : Nat} {as : List Value} {m : dMem} {ls : dLs} (h1 : dRecv j as m = true) (h2 : Nat.ble (dSum as) (dMl j) = true) (h3 : dTr j = false) (h4 : entL as ++ List.replicate (dPad j) none = ls) : dN e (d + 1) j as m = runL e (dN e d) j dFuel 0 ls [] m := by
  show (bif dRecv j as m && Nat.ble (dSum as) (dMl j) then dFin (dTr j) (runL e (dN e d) j dFuel 0 (entL as ++ List.replicate (dPad j) none) [] m) else none) = _
  rw [h1, h2, h3, h4]
  rfl
theorem dFu : dFuel = 3999900 + 100 := rfl
def frP (a : Nat) (m m2 : dMem) : Prop := ∀ q, q < a ∨ a + 25 ≤ q → m2.1 q = m.1 q
/-- the parser at the token c -/
def PS (T : dTok) (a : Nat) (I A : bX) (c y : Nat) (m : dMem) : Prop := hB TI 6 a I m ∧ hB TA 19 (a + 6) A m ∧ TKI T I ∧ I.1 1 6 = Int32.ofNat c ∧ c < tN T ∧ I.1 0 4 = Int32.ofNat y
/-- a run of the class does what the text says -/
def lnR (T : dTok) (a : Nat) (I : bX) (m : dMem) (run : Option dRes) (r : pRs) : Prop := match r with
  | .inl x => ∃ m2 I2 A2, run = some (.inr 3, m2) ∧ hB TI 6 a I2 m2 ∧ hB TA 19 (a + 6) A2 m2 ∧ I2.1 0 2 = Int32.ofNat x.1 ∧ I2.1 0 3 = Int32.ofNat (tPl T x.2) ∧ frP a m m2 ∧ m2.2 = (m.2.1 + 1, m.2.2 + 6)
  | .inr st => ∃ m2 I2 A2, run = some (.inl none, m2) ∧ PS T a I2 A2 st.1 st.2.2.2 m2 ∧ OKA (2500 + st.2.2.2) A2 st.2.2.1 st.2.1 ∧ st.2.2.2 ≤ 500 ∧ I2.1 0 2 = I.1 0 2 ∧ I2.1 0 3 = I.1 0 3 ∧ frP a m m2 ∧ m2.2 = m.2
theorem lnR_er {T : dTok} {a : Nat} {I A : bX} {m : dMem} {x : dErr} (hA : hB TA 19 (a + 6) A m) : lnR T a I m (erR T a I x m) (.inl x) := by
  refine ⟨((ov TI 6 a (erI T I x.2 x.1) m).1, m.2.1 + 1, m.2.2 + 6), erI T I x.2 x.1, A, rfl, ?_, ?_, ?_, ?_, fun q hq => ov_out (by omega), rfl⟩
  · exact fun i hi => hB_ov (X := erI T I x.2 x.1) (m := m) i hi
  · exact fun i hi => hB_other (T := TI) (n := 6) (a := a) (X := erI T I x.2 x.1) hA (by omega) i hi
  · unfold erI
    rw [uA_s, wr_n (by omega), wr_s]
  · unfold erI
    rw [uA_s, wr_s]
theorem lnR_ok {T : dTok} {a c c' y : Nat} {I A A' : bX} {m : dMem} {s' h' : sV} (P : PS T a I A c y m) (hl : c' < tN T) (W : OKA (2500 + y) A' h' s') (hy : y ≤ 500) : lnR T a I m (some (.inl none, ov TA 19 (a + 6) A' (ov TI 6 a (setC I c') m))) (.inr (c', s', h', y)) := by
  obtain ⟨p1, p2, p3, p4, p5, p6⟩ := P
  refine ⟨_, setC I c', A', rfl, ⟨hB_other hB_ov (by omega), hB_ov, setC_TK p3, setC_c, hl, ?_⟩, W, hy, ?_, ?_, fun q hq => ?_, rfl⟩
  · rw [setC_0]; exact p6
  · rw [setC_0]
  · rw [setC_0]
  · rw [ov_out (by omega), ov_out (by omega)]
section
variable {e : dEnv} {d a c c1 x Y y : Nat} {T : dTok} {I A : bX} {h s : sV} {m : dMem}
theorem PS.ii (_ : PS T a I A c y m) {c1 : Nat} : hB TI 6 a (setC I c1) (ov TI 6 a (setC I c1) m) := hB_ov
theorem PS.aa (P : PS T a I A c y m) {c1 : Nat} : hB TA 19 (a + 6) A (ov TI 6 a (setC I c1) m) := hB_other P.2.1 (by omega)
theorem PS.mm (P : PS T a I A c y m) : ov TI 6 a (setC I c) m = m := by rw [setC_s P.2.2.2.1, ov_self P.1]
theorem PS.yy (P : PS T a I A c y m) {c1 : Nat} : gI (ov TI 6 a (setC I c1) m) a 5 4 = some (Int32.ofNat y) := by rw [I_g0_4, setC_0, P.2.2.2.2.2]
theorem p53 (he : e.1 ≤ a) (P : PS T a I A c y m) (hl : c1 < tN T) : dN e (d + 1) 53 [.ref (a + 1)] (ov TI 6 a (setC I c1) m) = some (.inl none, ov TI 6 a (setC I (nx T c1)) m) := by
  have g := n53 (e := e) (d := d) he (P.ii (c1 := c1)) (setC_TK P.2.2.1) setC_c hl
  rwa [setC_C, ov_ov] at g
theorem p54 (P : PS T a I A c y m) (hl : c1 < tN T) : dN e (d + 1) 54 [.ref (a + 1)] (ov TI 6 a (setC I c1) m) = rI (Int32.ofNat (kd T c1)) (ov TI 6 a (setC I c1) m) := n54 (P.ii (c1 := c1)) (setC_TK P.2.2.1) setC_c hl
theorem p74 (he : e.1 ≤ a) (P : PS T a I A c y m) (hl : c1 < tN T) {lo : Nat} {hi : Int32} (hlo : lo < 100000) : dN e (d + 2) 74 [.ref a, .int (Int32.ofNat lo), .int hi] (ov TI 6 a (setC I c1) m) = itR T a I (nx T c1) m (pNum T (nx T c1) lo hi.toInt) := by
  have g := n74 (e := e) (d := d) he (P.ii (c1 := c1)) (setC_TK P.2.2.1) setC_c hl (lo := lo) (hi := hi) hlo
  rwa [itR_C] at g
theorem p74n (he : e.1 ≤ a) (P : PS T a I A c y m) (hl : c1 < tN T) {lo hi : Nat} (hlo : lo < 100000) (hhi : hi < 100000) : dN e (d + 2) 74 [.ref a, .int (Int32.ofNat lo), .int (Int32.ofNat hi)] (ov TI 6 a (setC I c1) m) = itR T a I (nx T c1) m (pNum T (nx T c1) lo (hi : Int)) := by
  have g := p74 (d := d) he P hl (lo := lo) (hi := Int32.ofNat hi) hlo
  rwa [nToI (by omega)] at g
theorem p74c (he : e.1 ≤ a) (P : PS T a I A c y m) (hl : c1 < tN T) {n : Nat} (hn : n < 1000) : dN e (d + 2) 74 [.ref a, .int (Int32.ofNat 0), .int (Int32.ofNat n - Int32.ofNat 1)] (ov TI 6 a (setC I c1) m) = itR T a I (nx T c1) m (pNum T (nx T c1) 0 ((n : Int) - 1)) := by
  have g := p74 (d := d) he P hl (lo := 0) (hi := Int32.ofNat n - Int32.ofNat 1) (by omega)
  rwa [hiI (by omega)] at g
theorem p77 (he : e.1 ≤ a) (P : PS T a I A c y m) (W : OK0 Y A h s) (hl : c1 < tN T) : dN e (d + 3) 77 [.ref a] (ov TI 6 a (setC I c1) m) = itR T a I (nx T c1) m (pKept T (nx T c1) s) := by
  have g := n77 (e := e) (d := d) he (P.ii (c1 := c1)) P.aa W (setC_TK P.2.2.1) setC_c hl
  rwa [itR_C] at g
theorem frR_C {r : dErr ⊕ (Nat × Nat)} : frR T a (setC I c) (ov TI 6 a (setC I c) m) r = frR T a I m r := by
  cases r with
  | inl y => exact erR_C
  | inr v =>
    show rI _ (ov TI 6 a (setC (setC I c) v.2) (ov TI 6 a (setC I c) m)) = rI _ (ov TI 6 a (setC I v.2) m)
    rw [setC_C, ov_ov]
theorem p78 (he : e.1 ≤ a) (P : PS T a I A c y m) (W : OK0 Y A h s) (hl : c1 < tN T) : dN e (d + 3) 78 [.ref a] (ov TI 6 a (setC I c1) m) = frR T a I m (pFree T c1 s h) := by
  have g := n78 (e := e) (d := d) he (P.ii (c1 := c1)) P.aa W (setC_TK P.2.2.1) setC_c hl
  rwa [frR_C] at g
theorem p76 (he : e.1 ≤ a) (P : PS T a I A c y m) (S : hSt e x m) (hx : x ≤ a) (hl : c1 < tN T) {k : Nat} (hk : k < 15) : dN e (d + 4) 76 [.ref a, .ref (e.2 k)] (ov TI 6 a (setC I c1) m) = rI (bI (isW T (nx T c1) (wd k))) (ov TI 6 a (setC I (bif isW T (nx T c1) (wd k) then nx T c1 else c1)) m) := by
  have w := wd_ok hk
  have g := n76 (e := e) (d := d) (x := x) he (P.ii (c1 := c1)) (setC_TK P.2.2.1) setC_c hl ((S k (by omega)).fr (fun q hq => ov_out (by omega))) hx w.1 w.2.2
  rwa [setC_C, ov_ov] at g
theorem p55 (P : PS T a I A c y m) (S : hSt e x m) (hx : x ≤ a) (hl : c1 < tN T) {k : Nat} (hk : k < 15) : dN e (d + 3) 55 [.ref (a + 1), .ref (e.2 k)] (ov TI 6 a (setC I c1) m) = rI (bI (isW T c1 (wd k))) (ov TI 6 a (setC I c1) m) := by
  have w := wd_ok hk
  exact n55 (e := e) (d := d) (x := x) (P.ii (c1 := c1)) (setC_TK P.2.2.1) setC_c hl ((S k (by omega)).fr (fun q hq => ov_out (by omega))) w.1 w.2.2
theorem naR_C {c' : Nat} {r : dErr ⊕ Unit} : naR T a (setC I c) c' (ov TI 6 a (setC I c) m) r = naR T a I c' m r := by
  cases r with
  | inl y => exact erR_C
  | inr v =>
    show some (_, ov TI 6 a (setC (setC I c) c') (ov TI 6 a (setC I c) m)) = some (_, ov TI 6 a (setC I c') m)
    rw [setC_C, ov_ov]
theorem p75 {na p N : Nat} (he : e.1 ≤ a) (P : PS T a I A c y m) (hl : c1 < tN T) (hN : N ≤ 8) (hf : ∀ k, k < N → aL (ov TI 6 a (setC I (nx T c1)) m) 1 na (Int32.ofNat k) = some (pkN h (p + 6 * k)) ∧ WN h (p + 6 * k)) : dN e (d + 3) 75 [.ref a, .ref na, .int (Int32.ofNat N)] (ov TI 6 a (setC I c1) m) = naR T a I (nx T c1) m (pName T (nx T c1) h p N) := by
  have g := n75 (e := e) (d := d) (na := na) (p := p) (N := N) (h := h) he (P.ii (c1 := c1)) (setC_TK P.2.2.1) setC_c hl hN (fun k hk => by rw [setC_C, ov_ov]; exact hf k hk)
  rwa [naR_C] at g
theorem p60_1 (P : PS T a I A c y m) {k : Int32} : dN e (d + 1) 60 [.ref a, .int (Int32.ofNat 1), .int k] (ov TI 6 a (setC I c1) m) = some (.inl none, ov TI 6 a (setC I c1) m) := n60_1 P.ii
theorem p60_t (P : PS T a I A c y m) {k : Int32} : dN e (d + 1) 60 [.ref a, .int (bI true), .int k] (ov TI 6 a (setC I c1) m) = some (.inl none, ov TI 6 a (setC I c1) m) := n60_t P.ii
theorem p60_0 (he : e.1 ≤ a) (P : PS T a I A c y m) (hl : c1 < tN T) {k : Nat} : dN e (d + 1) 60 [.ref a, .int (Int32.ofNat 0), .int (Int32.ofNat k)] (ov TI 6 a (setC I c1) m) = erR T a I (k, c1) m := by
  have g := n60_0 (e := e) (d := d) (k := k) he (P.ii (c1 := c1)) (setC_TK P.2.2.1) setC_c hl
  rwa [erR_C] at g
theorem p60_f (he : e.1 ≤ a) (P : PS T a I A c y m) (hl : c1 < tN T) {k : Nat} : dN e (d + 1) 60 [.ref a, .int (bI false), .int (Int32.ofNat k)] (ov TI 6 a (setC I c1) m) = erR T a I (k, c1) m := p60_0 he P hl
theorem pName_r {c p many : Nat} {w : Unit} (q : pName T c h p many = .inr w) : tK T c = 1 ∧ tL T c ≤ 6 := by
  obtain ⟨q1, q2⟩ := pC_i q
  obtain ⟨q3, -⟩ := pC_i q2
  rw [Bool.and_eq_true] at q3
  have q4 : ¬ 6 < tL T c := fun z => by
    have := q3.1
    rw [decide_eq_true z] at this
    cases this
  exact ⟨kd_1 (of_decide_eq_true q1), by omega⟩
theorem pFree_r {c : Nat} {r : Nat × Nat} (H : WH h) (q : pFree T c s h = .inr r) : r.1 < mkN h ∧ r.1 ≤ 47 ∧ r.2 = nx T (nx T c) := by
  obtain ⟨i, i1, q⟩ := pB_i q
  obtain ⟨j, j1, q⟩ := pB_i q
  obtain ⟨-, q⟩ := pC_i q
  have e1 : (i * nN (h 1) + j, nx T (nx T c)) = r := Sum.inr.inj q
  obtain ⟨-, -, -, i4⟩ := pNum_r i1
  obtain ⟨-, -, -, j4⟩ := pNum_r j1
  have hm := (WH_mk H).2.2
  have : i * nN (h 1) + j < mkN h := by
    unfold mkN
    have a1 : i * nN (h 1) + nN (h 1) ≤ nN (h 0) * nN (h 1) := by
      rw [← Nat.succ_mul]
      exact Nat.mul_le_mul_right _ (by omega)
    omega
  rw [← e1]
  exact ⟨this, by omega, rfl⟩
theorem pKept_r {c k : Nat} (q : pKept T c s = .inr k) : k < nbS s ∧ gonB s k = false := by
  obtain ⟨i, i1, q⟩ := pB_i q
  obtain ⟨q1, q⟩ := pC_i q
  have e1 : i = k := Sum.inr.inj q
  obtain ⟨-, -, -, i4⟩ := pNum_r i1
  rw [← e1]
  refine ⟨by omega, ?_⟩
  cases g : gonB s i with
  | false => rfl
  | true => rw [g] at q1; cases q1
theorem OKA.y0 (W : OKA Y A h s) : s 0 = Int32.ofNat (nN (s 0)) ∧ nN (s 0) ≤ Y := ⟨W.2.1.2.2.1.1, W.2.1.2.2.1.2.2⟩
theorem l64 (he : e.1 ≤ a) (P : PS T a I A c y m) (W : OKA (2500 + y) A h s) (hy : y ≤ 500) (S : hSt e x m) (hx : x ≤ a) : lnR T a I m (dN e (d + 5) 64 [.ref a] m) (pClass T (c, s, h, y)) := by
  have hl := P.2.2.2.2.1
  have hl1 := nx_lt hl
  have hl2 := nx_lt hl1
  have hl3 := nx_lt hl2
  have hl4 := nx_lt hl3
  have hAm := P.2.1
  have yb := W.y0
  have hn8 : nN (h 2) ≤ 8 := W.2.2.2.2.1.2.2
  have hcnt : A.1 1 4 = Int32.ofNat (nN (h 2)) := W.1.2.2.2.1.2.2.1.trans W.2.2.2.2.1.1
  rw [dN_at (j := 64) (as := [.ref a]) (m := m) (ls := [some (.ref a), none, none, none, none]) (hI_c0 P.1) rfl rfl rfl, dFu]
  conv => arg 5; rw [← P.mm]
  rw [pClass_e, q64_0]
  (try simp -implicitDefEqProofs only [hI_r0_0 (P.ii (c1 := c)), hI_r0_1 (P.ii (c1 := c)), hA_r0_0 (P.aa (c1 := c)), hA_r0_1 (P.aa (c1 := c)), hA_r0_5 (P.aa (c1 := c)), hA_r0_6 (P.aa (c1 := c)), hA_r1_0 (P.aa (c1 := c)), hA_g1_4 (P.aa (c1 := c)), hA_r6_0 (P.aa (c1 := c)), hA_g6_2 (P.aa (c1 := c)), hA_g0_13 (P.aa (c1 := c)), hA_g0_14 (P.aa (c1 := c)), hA_g0_15 (P.aa (c1 := c)), hA_g0_16 (P.aa (c1 := c)), bd_s])
  rw [hcnt]
  by_cases q : nN (h 2) = 8
  · rw [if_neg (by rw [nLt (by omega) (by omega)]; omega), q64_1, q64_2, p60_0 (d := d + 3) he P hl, decide_eq_true q]
    exact lnR_er hAm
  · rw [if_pos (by rw [nLt (by omega) (by omega)]; omega), q64_2, p60_1 (d := d + 3) P, kV_r, decide_eq_false q, Bool.not_false, pC_t]
    (try simp -implicitDefEqProofs only [hI_r0_0 (P.ii (c1 := c)), hI_r0_1 (P.ii (c1 := c)), hA_r0_0 (P.aa (c1 := c)), hA_r0_1 (P.aa (c1 := c)), hA_r0_5 (P.aa (c1 := c)), hA_r0_6 (P.aa (c1 := c)), hA_r1_0 (P.aa (c1 := c)), hA_g1_4 (P.aa (c1 := c)), hA_r6_0 (P.aa (c1 := c)), hA_g6_2 (P.aa (c1 := c)), hA_g0_13 (P.aa (c1 := c)), hA_g0_14 (P.aa (c1 := c)), hA_g0_15 (P.aa (c1 := c)), hA_g0_16 (P.aa (c1 := c)), bd_s])
    rw [hcnt, p75 (d := d + 1) (h := h) (p := 46) he P hl hn8 (fun k hk => ⟨by rw [hA_a2 P.aa (by omega)]; exact congrArg some (W.1.2.2.2.1.2.2.2.2.1 k hk).2.2.2, (W.2.2.2.2.2.2.1 k hk).2.2.2⟩)]
    cases hr : pName T (nx T c) h 46 (nN (h 2)) with
    | inl z => exact lnR_er hAm
    | inr w =>
      obtain ⟨hk, hL⟩ := pName_r hr
      show lnR T a I m (kL (some (.inl (some (.long (nmQ T (nx T c) (tL T (nx T c))))), ov TI 6 a (setC I (nx T c)) m)) dPass _) _
      rw [kL_r, pB_r, p74n (d := d + 2) he P hl1 (by omega) (by omega)]
      cases hr2 : pNum T (nx T (nx T c)) 1 50 with
      | inl z =>
        exact lnR_er hAm
      | inr p =>
        obtain ⟨-, -, p1, p2⟩ := pNum_r hr2
        show lnR T a I m (kI (rI (Int32.ofNat p) (ov TI 6 a (setC I (nx T (nx T c))) m)) dPass _) _
        rw [kI_r, pB_r, p74n (d := d + 2) he P hl2 (by omega) (by omega)]
        cases hr3 : pNum T (nx T (nx T (nx T c))) 0 50 with
        | inl z =>
          exact lnR_er hAm
        | inr v =>
          obtain ⟨-, -, v1, v2⟩ := pNum_r hr3
          show lnR T a I m (kI (rI (Int32.ofNat v) (ov TI 6 a (setC I (nx T (nx T (nx T c)))) m)) dPass _) _
          rw [kI_r, pB_r]
          (try simp -implicitDefEqProofs only [hI_r0_0 (P.ii (c1 := (nx T (nx T (nx T c))))), hI_r0_1 (P.ii (c1 := (nx T (nx T (nx T c))))), hA_r0_0 (P.aa (c1 := (nx T (nx T (nx T c))))), hA_r0_1 (P.aa (c1 := (nx T (nx T (nx T c))))), hA_r0_5 (P.aa (c1 := (nx T (nx T (nx T c))))), hA_r0_6 (P.aa (c1 := (nx T (nx T (nx T c))))), hA_r1_0 (P.aa (c1 := (nx T (nx T (nx T c))))), hA_g1_4 (P.aa (c1 := (nx T (nx T (nx T c))))), hA_r6_0 (P.aa (c1 := (nx T (nx T (nx T c))))), hA_g6_2 (P.aa (c1 := (nx T (nx T (nx T c))))), hA_g0_13 (P.aa (c1 := (nx T (nx T (nx T c))))), hA_g0_14 (P.aa (c1 := (nx T (nx T (nx T c))))), hA_g0_15 (P.aa (c1 := (nx T (nx T (nx T c))))), hA_g0_16 (P.aa (c1 := (nx T (nx T (nx T c))))), bd_s])
          rw [p76 (d := d) he P S hx hl3 (k := 13) (by omega), kI_r]
          cases hw : isW T (nx T (nx T (nx T (nx T c)))) (wd 13) with
          | true =>
            obtain ⟨A', g, OK⟩ := k_addC (e := e) (d := d + 3) (a := a + 6) (m := ov TI 6 a (setC I (nx T (nx T (nx T (nx T c))))) m) (by omega) W P.2.2.1.1 hl1 hk hL q (p := p) (q := v) (f := true) (by omega) (by omega) (by omega)
            rw [ov_self P.aa] at g
            show lnR T a I m (kV (dN e (d + 4) 83 [.ref (a + 6 + 1), .long (nmQ T (nx T c) (tL T (nx T c))), .int (Int32.ofNat p), .int (Int32.ofNat v), .int (bI true)] (ov TI 6 a (setC I (nx T (nx T (nx T (nx T c))))) m)) dPass _) _
            rw [g, kV_r]
            exact lnR_ok P hl4 OK hy
          | false =>
            obtain ⟨A', g, OK⟩ := k_addC (e := e) (d := d + 3) (a := a + 6) (m := ov TI 6 a (setC I (nx T (nx T (nx T c)))) m) (by omega) W P.2.2.1.1 hl1 hk hL q (p := p) (q := v) (f := false) (by omega) (by omega) (by omega)
            rw [ov_self P.aa] at g
            show lnR T a I m (kV (dN e (d + 4) 83 [.ref (a + 6 + 1), .long (nmQ T (nx T c) (tL T (nx T c))), .int (Int32.ofNat p), .int (Int32.ofNat v), .int (bI false)] (ov TI 6 a (setC I (nx T (nx T (nx T c)))) m)) dPass _) _
            rw [g, kV_r]
            exact lnR_ok P hl3 OK hy
theorem l65 (he : e.1 ≤ a) (P : PS T a I A c y m) (W : OKA (2500 + y) A h s) (hy : y ≤ 500) (S : hSt e x m) (hx : x ≤ a) : lnR T a I m (dN e (d + 5) 65 [.ref a] m) (pNew T (c, s, h, y)) := by
  have hl := P.2.2.2.2.1
  have hl1 := nx_lt hl
  have hl2 := nx_lt hl1
  have hl3 := nx_lt hl2
  have hl4 := nx_lt hl3
  have hAm := P.2.1
  have yb := W.y0
  have hn8 : nN (h 2) ≤ 8 := W.2.2.2.2.1.2.2
  have hcnt : A.1 1 4 = Int32.ofNat (nN (h 2)) := W.1.2.2.2.1.2.2.1.trans W.2.2.2.2.1.1
  have ha := W.yr.trans yb.1
  rw [dN_at (j := 65) (as := [.ref a]) (m := m) (ls := [some (.ref a), none, none, none]) (hI_c0 P.1) rfl rfl rfl, dFu]
  conv => arg 5; rw [← P.mm]
  rw [pNew_e, q65_0]
  (try simp -implicitDefEqProofs only [hI_r0_0 (P.ii (c1 := c)), hI_r0_1 (P.ii (c1 := c)), hA_r0_0 (P.aa (c1 := c)), hA_r0_1 (P.aa (c1 := c)), hA_r0_5 (P.aa (c1 := c)), hA_r0_6 (P.aa (c1 := c)), hA_r1_0 (P.aa (c1 := c)), hA_g1_4 (P.aa (c1 := c)), hA_r6_0 (P.aa (c1 := c)), hA_g6_2 (P.aa (c1 := c)), hA_g0_13 (P.aa (c1 := c)), hA_g0_14 (P.aa (c1 := c)), hA_g0_15 (P.aa (c1 := c)), hA_g0_16 (P.aa (c1 := c)), bd_s])
  have kt := k_takes (e := e) (d := d + 1) (a := a + 6) (m := (ov TI 6 a (setC I c) m)) W.z
  rw [ov_self P.aa] at kt
  rw [kt, kI_r]
  cases hb : (decide (nbS s < 24) && !decide (fstS s h = nM1)) with
  | false =>
    rw [p60_f (d := d + 3) he P hl]
    exact lnR_er hAm
  | true =>
    rw [Bool.and_eq_true] at hb
    have hb1 : nbS s < 24 := of_decide_eq_true hb.1
    have hb2 : ¬ fstS s h = nM1 := fun z => by
      have := hb.2
      rw [decide_eq_true z] at this
      cases this
    obtain ⟨q, hq, hqm⟩ : ∃ q, fstS s h = Int32.ofNat q ∧ q < mkN h := by
      unfold fstS fI at hb2 ⊢
      cases hf : fnd (mkN h) (frB s) with
      | none => rw [hf] at hb2; exact absurd rfl hb2
      | some q => exact ⟨q, rfl, (fnd_some hf).1⟩
    have hm47 := (WH_mk W.2.2).2.2
    rw [p60_t (d := d + 3) P, kV_r, pC_t]
    (try simp -implicitDefEqProofs only [hI_r0_0 (P.ii (c1 := c)), hI_r0_1 (P.ii (c1 := c)), hA_r0_0 (P.aa (c1 := c)), hA_r0_1 (P.aa (c1 := c)), hA_r0_5 (P.aa (c1 := c)), hA_r0_6 (P.aa (c1 := c)), hA_r1_0 (P.aa (c1 := c)), hA_g1_4 (P.aa (c1 := c)), hA_r6_0 (P.aa (c1 := c)), hA_g6_2 (P.aa (c1 := c)), hA_g0_13 (P.aa (c1 := c)), hA_g0_14 (P.aa (c1 := c)), hA_g0_15 (P.aa (c1 := c)), hA_g0_16 (P.aa (c1 := c)), bd_s])
    rw [hcnt, p74c (d := d + 2) he P hl (by omega)]
    cases hr : pNum T (nx T c) 0 ((nN (h 2) : Int) - 1) with
    | inl z => exact lnR_er hAm
    | inr p =>
      obtain ⟨-, -, p1, p2⟩ := pNum_r hr
      show lnR T a I m (kI (rI (Int32.ofNat p) (ov TI 6 a (setC I (nx T c)) m)) dPass _) _
      rw [kI_r, pB_r]
      (try simp -implicitDefEqProofs only [hI_r0_0 (P.ii (c1 := (nx T c))), hI_r0_1 (P.ii (c1 := (nx T c))), hA_r0_0 (P.aa (c1 := (nx T c))), hA_r0_1 (P.aa (c1 := (nx T c))), hA_r0_5 (P.aa (c1 := (nx T c))), hA_r0_6 (P.aa (c1 := (nx T c))), hA_r1_0 (P.aa (c1 := (nx T c))), hA_g1_4 (P.aa (c1 := (nx T c))), hA_r6_0 (P.aa (c1 := (nx T c))), hA_g6_2 (P.aa (c1 := (nx T c))), hA_g0_13 (P.aa (c1 := (nx T c))), hA_g0_14 (P.aa (c1 := (nx T c))), hA_g0_15 (P.aa (c1 := (nx T c))), hA_g0_16 (P.aa (c1 := (nx T c))), bd_s])
      rw [ha, p74n (d := d + 2) he P hl1 (by omega) (by omega)]
      cases hr2 : pNum T (nx T (nx T c)) 1800 (nN (s 0) : Int) with
      | inl z => exact lnR_er hAm
      | inr v =>
        obtain ⟨-, -, v1, v2⟩ := pNum_r hr2
        show lnR T a I m (kI (rI (Int32.ofNat v) (ov TI 6 a (setC I (nx T (nx T c))) m)) dPass _) _
        rw [kI_r, pB_r, p76 (d := d) he P S hx hl2 (k := 14) (by omega), kI_r]
        cases hw : isW T (nx T (nx T (nx T c))) (wd 14) with
        | true =>
          show lnR T a I m (if bI true = Int32.ofNat 0 then _ else kI (dN e (d + 4) 78 [.ref a] (ov TI 6 a (setC I (nx T (nx T (nx T c)))) m)) dPass _) _
          rw [if_neg (by decide +kernel), p78 (d := d + 1) he P W.z hl3]
          cases hr3 : pFree T (nx T (nx T (nx T c))) s h with
          | inl z =>
            exact lnR_er hAm
          | inr r =>
            obtain ⟨r1, r2, r3⟩ := pFree_r W.2.2 hr3
            have hlr : r.2 < tN T := by rw [r3]; exact nx_lt (nx_lt hl3)
            show lnR T a I m (kI (rI (Int32.ofNat r.1) (ov TI 6 a (setC I r.2) m)) dPass _) _
            rw [kI_r, q65_2]
            (try simp -implicitDefEqProofs only [hI_r0_1 (P.ii (c1 := r.2)), bd_s])
            obtain ⟨A', g, OK⟩ := k_new (e := e) (d := d + 2) (a := a + 6) (m := ov TI 6 a (setC I r.2) m) (by omega) (by omega) W (c := p) (y := v) (q := r.1) hb1 (by omega) (by omega) (by omega) (by omega) r1 r2
            rw [ov_self P.aa] at g
            rw [g, kV_r]
            exact lnR_ok P hlr OK hy
        | false =>
          show lnR T a I m (if bI false = Int32.ofNat 0 then runL e (dN e (d + 4)) 65 _ 1 [some (.ref a), some (.int (Int32.ofNat p)), some (.int (Int32.ofNat v)), none] [] (ov TI 6 a (setC I (nx T (nx T c))) m) else _) (.inr _)
          have kf := k_fst (e := e) (d := d + 2) (a := a + 6) (m := (ov TI 6 a (setC I (nx T (nx T c))) m)) W.z
          rw [ov_self P.aa] at kf
          obtain ⟨A', g, OK⟩ := k_new (e := e) (d := d + 2) (a := a + 6) (m := (ov TI 6 a (setC I (nx T (nx T c))) m)) (by omega) (by omega) W (c := p) (y := v) (q := q) hb1 (by omega) (by omega) (by omega) (by omega) hqm (by omega)
          rw [ov_self P.aa] at g
          rw [if_pos (by decide +kernel), q65_1]
          (try simp -implicitDefEqProofs only [hI_r0_0 (P.ii (c1 := (nx T (nx T c)))), hI_r0_1 (P.ii (c1 := (nx T (nx T c)))), hA_r0_0 (P.aa (c1 := (nx T (nx T c)))), hA_r0_1 (P.aa (c1 := (nx T (nx T c)))), hA_r0_5 (P.aa (c1 := (nx T (nx T c)))), hA_r0_6 (P.aa (c1 := (nx T (nx T c)))), hA_r1_0 (P.aa (c1 := (nx T (nx T c)))), hA_g1_4 (P.aa (c1 := (nx T (nx T c)))), hA_r6_0 (P.aa (c1 := (nx T (nx T c)))), hA_g6_2 (P.aa (c1 := (nx T (nx T c)))), hA_g0_13 (P.aa (c1 := (nx T (nx T c)))), hA_g0_14 (P.aa (c1 := (nx T (nx T c)))), hA_g0_15 (P.aa (c1 := (nx T (nx T c)))), hA_g0_16 (P.aa (c1 := (nx T (nx T c)))), bd_s])
          rw [kf, kI_r, q65_2]
          (try simp -implicitDefEqProofs only [hI_r0_0 (P.ii (c1 := (nx T (nx T c)))), hI_r0_1 (P.ii (c1 := (nx T (nx T c)))), hA_r0_0 (P.aa (c1 := (nx T (nx T c)))), hA_r0_1 (P.aa (c1 := (nx T (nx T c)))), hA_r0_5 (P.aa (c1 := (nx T (nx T c)))), hA_r0_6 (P.aa (c1 := (nx T (nx T c)))), hA_r1_0 (P.aa (c1 := (nx T (nx T c)))), hA_g1_4 (P.aa (c1 := (nx T (nx T c)))), hA_r6_0 (P.aa (c1 := (nx T (nx T c)))), hA_g6_2 (P.aa (c1 := (nx T (nx T c)))), hA_g0_13 (P.aa (c1 := (nx T (nx T c)))), hA_g0_14 (P.aa (c1 := (nx T (nx T c)))), hA_g0_15 (P.aa (c1 := (nx T (nx T c)))), hA_g0_16 (P.aa (c1 := (nx T (nx T c)))), bd_s])
          rw [hq, g, kV_r]
          exact lnR_ok P hl2 OK hy
theorem l66 (he : e.1 ≤ a) (P : PS T a I A c y m) (W : OKA (2500 + y) A h s) (hy : y ≤ 500) : lnR T a I m (dN e (d + 5) 66 [.ref a] m) (pReader T (c, s, h, y)) := by
  have hl := P.2.2.2.2.1
  have hl1 := nx_lt hl
  have hl2 := nx_lt hl1
  have hl3 := nx_lt hl2
  have hl4 := nx_lt hl3
  have hAm := P.2.1
  have yb := W.y0
  have hn6 : nN (h 3) ≤ 6 := W.2.2.2.2.2.1.2.2
  have hcnt : A.1 6 2 = Int32.ofNat (nN (h 3)) := W.1.2.2.2.1.2.2.2.1.trans W.2.2.2.2.2.1.1
  rw [dN_at (j := 66) (as := [.ref a]) (m := m) (ls := [some (.ref a), none, none]) (hI_c0 P.1) rfl rfl rfl, dFu]
  conv => arg 5; rw [← P.mm]
  rw [pReader_e, q66_0]
  (try simp -implicitDefEqProofs only [hI_r0_0 (P.ii (c1 := c)), hI_r0_1 (P.ii (c1 := c)), hA_r0_0 (P.aa (c1 := c)), hA_r0_1 (P.aa (c1 := c)), hA_r0_5 (P.aa (c1 := c)), hA_r0_6 (P.aa (c1 := c)), hA_r1_0 (P.aa (c1 := c)), hA_g1_4 (P.aa (c1 := c)), hA_r6_0 (P.aa (c1 := c)), hA_g6_2 (P.aa (c1 := c)), hA_g0_13 (P.aa (c1 := c)), hA_g0_14 (P.aa (c1 := c)), hA_g0_15 (P.aa (c1 := c)), hA_g0_16 (P.aa (c1 := c)), bd_s])
  rw [hcnt]
  by_cases q : nN (h 3) = 6
  · rw [if_neg (by rw [nLt (by omega) (by omega)]; omega), q66_1, q66_2, p60_0 (d := d + 3) he P hl, decide_eq_true q]
    exact lnR_er hAm
  · rw [if_pos (by rw [nLt (by omega) (by omega)]; omega), q66_2, p60_1 (d := d + 3) P, kV_r, decide_eq_false q, Bool.not_false, pC_t]
    (try simp -implicitDefEqProofs only [hI_r0_0 (P.ii (c1 := c)), hI_r0_1 (P.ii (c1 := c)), hA_r0_0 (P.aa (c1 := c)), hA_r0_1 (P.aa (c1 := c)), hA_r0_5 (P.aa (c1 := c)), hA_r0_6 (P.aa (c1 := c)), hA_r1_0 (P.aa (c1 := c)), hA_g1_4 (P.aa (c1 := c)), hA_r6_0 (P.aa (c1 := c)), hA_g6_2 (P.aa (c1 := c)), hA_g0_13 (P.aa (c1 := c)), hA_g0_14 (P.aa (c1 := c)), hA_g0_15 (P.aa (c1 := c)), hA_g0_16 (P.aa (c1 := c)), bd_s])
    rw [hcnt, p75 (d := d + 1) (h := h) (p := 4) he P hl (by omega) (fun k hk => ⟨by rw [hA_a7 P.aa (by omega)]; exact congrArg some (W.1.2.2.2.1.2.2.2.2.2 k hk).2, (W.2.2.2.2.2.2.2 k hk).2⟩)]
    cases hr : pName T (nx T c) h 4 (nN (h 3)) with
    | inl z => exact lnR_er hAm
    | inr w =>
      obtain ⟨hk, hL⟩ := pName_r hr
      show lnR T a I m (kL (some (.inl (some (.long (nmQ T (nx T c) (tL T (nx T c))))), ov TI 6 a (setC I (nx T c)) m)) dPass _) _
      rw [kL_r, pB_r]
      (try simp -implicitDefEqProofs only [hI_r0_0 (P.ii (c1 := (nx T c))), hI_r0_1 (P.ii (c1 := (nx T c))), hA_r0_0 (P.aa (c1 := (nx T c))), hA_r0_1 (P.aa (c1 := (nx T c))), hA_r0_5 (P.aa (c1 := (nx T c))), hA_r0_6 (P.aa (c1 := (nx T c))), hA_r1_0 (P.aa (c1 := (nx T c))), hA_g1_4 (P.aa (c1 := (nx T c))), hA_r6_0 (P.aa (c1 := (nx T c))), hA_g6_2 (P.aa (c1 := (nx T c))), hA_g0_13 (P.aa (c1 := (nx T c))), hA_g0_14 (P.aa (c1 := (nx T c))), hA_g0_15 (P.aa (c1 := (nx T c))), hA_g0_16 (P.aa (c1 := (nx T c))), bd_s])
      rw [p74n (d := d + 2) he P hl1 (by omega) (by omega)]
      cases hr2 : pNum T (nx T (nx T c)) 1 4 with
      | inl z => exact lnR_er hAm
      | inr p =>
        obtain ⟨-, -, p1, p2⟩ := pNum_r hr2
        show lnR T a I m (kI (rI (Int32.ofNat p) (ov TI 6 a (setC I (nx T (nx T c))) m)) dPass _) _
        obtain ⟨A', g, OK⟩ := k_addR (e := e) (d := d + 3) (a := a + 6) (m := (ov TI 6 a (setC I (nx T (nx T c))) m)) (by omega) W P.2.2.1.1 hl1 hk hL q (p := p) (by omega)
        rw [ov_self P.aa] at g
        rw [kI_r, pB_r, g, kV_r]
        exact lnR_ok P hl2 OK hy
theorem l67 (he : e.1 ≤ a) (P : PS T a I A c y m) (W : OKA (2500 + y) A h s) (hy : y ≤ 500) : lnR T a I m (dN e (d + 5) 67 [.ref a] m) (pSeal T (c, s, h, y)) := by
  have hl := P.2.2.2.2.1
  have hl1 := nx_lt hl
  have hl2 := nx_lt hl1
  have hl3 := nx_lt hl2
  have hl4 := nx_lt hl3
  have hAm := P.2.1
  have yb := W.y0
  have ha := W.yr.trans yb.1
  rw [dN_at (j := 67) (as := [.ref a]) (m := m) (ls := [some (.ref a), none]) (hI_c0 P.1) rfl rfl rfl, dFu]
  conv => arg 5; rw [← P.mm]
  rw [pSeal_e, q67_0]
  (try simp -implicitDefEqProofs only [hI_r0_0 (P.ii (c1 := c)), hI_r0_1 (P.ii (c1 := c)), hA_r0_0 (P.aa (c1 := c)), hA_r0_1 (P.aa (c1 := c)), hA_r0_5 (P.aa (c1 := c)), hA_r0_6 (P.aa (c1 := c)), hA_r1_0 (P.aa (c1 := c)), hA_g1_4 (P.aa (c1 := c)), hA_r6_0 (P.aa (c1 := c)), hA_g6_2 (P.aa (c1 := c)), hA_g0_13 (P.aa (c1 := c)), hA_g0_14 (P.aa (c1 := c)), hA_g0_15 (P.aa (c1 := c)), hA_g0_16 (P.aa (c1 := c)), bd_s])
  rw [p77 (d := d + 1) he P W.z hl]
  cases hr : pKept T (nx T c) s with
  | inl z => exact lnR_er hAm
  | inr k =>
    obtain ⟨k1, k2⟩ := pKept_r hr
    have k3 := (W.box k1).2.2
    show lnR T a I m (kI (rI (Int32.ofNat k) (ov TI 6 a (setC I (nx T c)) m)) dPass _) _
    rw [kI_r, pB_r]
    (try simp -implicitDefEqProofs only [hI_r0_0 (P.ii (c1 := (nx T c))), hI_r0_1 (P.ii (c1 := (nx T c))), hA_r0_0 (P.aa (c1 := (nx T c))), hA_r0_1 (P.aa (c1 := (nx T c))), hA_r0_5 (P.aa (c1 := (nx T c))), hA_r0_6 (P.aa (c1 := (nx T c))), hA_r1_0 (P.aa (c1 := (nx T c))), hA_g1_4 (P.aa (c1 := (nx T c))), hA_r6_0 (P.aa (c1 := (nx T c))), hA_g6_2 (P.aa (c1 := (nx T c))), hA_g0_13 (P.aa (c1 := (nx T c))), hA_g0_14 (P.aa (c1 := (nx T c))), hA_g0_15 (P.aa (c1 := (nx T c))), hA_g0_16 (P.aa (c1 := (nx T c))), bd_s])
    rw [ha, p74n (d := d + 2) he P hl1 (by omega) (by omega)]
    cases hr2 : pNum T (nx T (nx T c)) (nN (s 0)) 9999 with
    | inl z => exact lnR_er hAm
    | inr v =>
      show lnR T a I m (kI (rI (Int32.ofNat v) (ov TI 6 a (setC I (nx T (nx T c))) m)) dPass _) _
      rw [kI_r, pB_r, hA_s13 P.aa (by omega) k3]
      (try simp only [bd_s])
      exact lnR_ok P hl2 (OKA_seal W k1) hy
theorem l68 (he : e.1 ≤ a) (P : PS T a I A c y m) (W : OKA (2500 + y) A h s) (hy : y ≤ 500) : lnR T a I m (dN e (d + 5) 68 [.ref a] m) (pReq T (c, s, h, y)) := by
  have hl := P.2.2.2.2.1
  have hl1 := nx_lt hl
  have hl2 := nx_lt hl1
  have hl3 := nx_lt hl2
  have hl4 := nx_lt hl3
  have hAm := P.2.1
  have yb := W.y0
  have hn6 : nN (h 3) ≤ 6 := W.2.2.2.2.2.1.2.2
  have hcnt : A.1 6 2 = Int32.ofNat (nN (h 3)) := W.1.2.2.2.1.2.2.2.1.trans W.2.2.2.2.2.1.1
  obtain ⟨nb, nb1, nb2, nb3⟩ := W.nb
  rw [dN_at (j := 68) (as := [.ref a]) (m := m) (ls := [some (.ref a), none, none]) (hI_c0 P.1) rfl rfl rfl, dFu]
  conv => arg 5; rw [← P.mm]
  rw [pReq_e, q68_0]
  (try simp -implicitDefEqProofs only [hI_r0_0 (P.ii (c1 := c)), hI_r0_1 (P.ii (c1 := c)), hA_r0_0 (P.aa (c1 := c)), hA_r0_1 (P.aa (c1 := c)), hA_r0_5 (P.aa (c1 := c)), hA_r0_6 (P.aa (c1 := c)), hA_r1_0 (P.aa (c1 := c)), hA_g1_4 (P.aa (c1 := c)), hA_r6_0 (P.aa (c1 := c)), hA_g6_2 (P.aa (c1 := c)), hA_g0_13 (P.aa (c1 := c)), hA_g0_14 (P.aa (c1 := c)), hA_g0_15 (P.aa (c1 := c)), hA_g0_16 (P.aa (c1 := c)), bd_s])
  rw [hcnt, p74c (d := d + 2) he P hl (by omega)]
  cases hr : pNum T (nx T c) 0 ((nN (h 3) : Int) - 1) with
  | inl z => exact lnR_er hAm
  | inr r =>
    obtain ⟨-, -, r1, r2⟩ := pNum_r hr
    show lnR T a I m (kI (rI (Int32.ofNat r) (ov TI 6 a (setC I (nx T c)) m)) dPass _) _
    rw [kI_r, pB_r]
    (try simp -implicitDefEqProofs only [hI_r0_0 (P.ii (c1 := (nx T c))), hI_r0_1 (P.ii (c1 := (nx T c))), hA_r0_0 (P.aa (c1 := (nx T c))), hA_r0_1 (P.aa (c1 := (nx T c))), hA_r0_5 (P.aa (c1 := (nx T c))), hA_r0_6 (P.aa (c1 := (nx T c))), hA_r1_0 (P.aa (c1 := (nx T c))), hA_g1_4 (P.aa (c1 := (nx T c))), hA_r6_0 (P.aa (c1 := (nx T c))), hA_g6_2 (P.aa (c1 := (nx T c))), hA_g0_13 (P.aa (c1 := (nx T c))), hA_g0_14 (P.aa (c1 := (nx T c))), hA_g0_15 (P.aa (c1 := (nx T c))), hA_g0_16 (P.aa (c1 := (nx T c))), bd_s])
    unfold pBox
    rw [nb2, nb1, p74c (d := d + 2) he P hl1 (by omega)]
    cases hr2 : pNum T (nx T (nx T c)) 0 ((nb : Int) - 1) with
    | inl z => exact lnR_er hAm
    | inr k =>
      obtain ⟨-, -, -, k4⟩ := pNum_r hr2
      have hk : k < nbS s := by omega
      have ko := k_obs (e := e) (d := d + 2) (a := a + 6) (m := (ov TI 6 a (setC I (nx T (nx T c))) m)) W.z (x := Int32.ofNat r) hk
      rw [ov_self P.aa] at ko
      show lnR T a I m (kI (rI (Int32.ofNat k) (ov TI 6 a (setC I (nx T (nx T c))) m)) dPass _) _
      rw [kI_r, pB_r]
      (try simp -implicitDefEqProofs only [hI_r0_0 (P.ii (c1 := (nx T (nx T c)))), hI_r0_1 (P.ii (c1 := (nx T (nx T c)))), hA_r0_0 (P.aa (c1 := (nx T (nx T c)))), hA_r0_1 (P.aa (c1 := (nx T (nx T c)))), hA_r0_5 (P.aa (c1 := (nx T (nx T c)))), hA_r0_6 (P.aa (c1 := (nx T (nx T c)))), hA_r1_0 (P.aa (c1 := (nx T (nx T c)))), hA_g1_4 (P.aa (c1 := (nx T (nx T c)))), hA_r6_0 (P.aa (c1 := (nx T (nx T c)))), hA_g6_2 (P.aa (c1 := (nx T (nx T c)))), hA_g0_13 (P.aa (c1 := (nx T (nx T c)))), hA_g0_14 (P.aa (c1 := (nx T (nx T c)))), hA_g0_15 (P.aa (c1 := (nx T (nx T c)))), hA_g0_16 (P.aa (c1 := (nx T (nx T c)))), bd_s])
      rw [ko, kI_r]
      by_cases q : obsS s h (Int32.ofNat r) k = Int32.ofNat 0
      · have hx5 : okI 0 5 (Int32.ofNat r) ∧ nN (Int32.ofNat r) < nN (h 3) := ⟨okI_of (by omega) (by omega) (by omega), by rw [nN_o (by omega)]; omega⟩
        have hw : nN (bx s k 8) < 3 := by
          have w8 := (W.box hk).2.1.2.2.2.2.2.2.1
          have := w8.2.2
          rcases Nat.lt_or_ge (nN (bx s k 8)) 3 with z | z
          · exact z
          · exfalso
            have e8 : bx s k 8 = Int32.ofNat 3 := by rw [w8.1, show nN (bx s k 8) = 3 by omega]
            unfold obsS at q
            rw [if_pos e8] at q
            repeat' split at q
            all_goals exact absurd q (by decide +kernel)
        obtain ⟨A', g, OK⟩ := k_req (e := e) (d := d + 2) (a := a + 6) (m := (ov TI 6 a (setC I (nx T (nx T c))) m)) (by omega) W hk hx5 (Or.inl hw)
        rw [ov_self P.aa] at g
        rw [if_pos q, q68_2, p60_1 (d := d + 3) P, kV_r, decide_eq_true q, pC_t]
        (try simp -implicitDefEqProofs only [hI_r0_0 (P.ii (c1 := (nx T (nx T c)))), hI_r0_1 (P.ii (c1 := (nx T (nx T c)))), hA_r0_0 (P.aa (c1 := (nx T (nx T c)))), hA_r0_1 (P.aa (c1 := (nx T (nx T c)))), hA_r0_5 (P.aa (c1 := (nx T (nx T c)))), hA_r0_6 (P.aa (c1 := (nx T (nx T c)))), hA_r1_0 (P.aa (c1 := (nx T (nx T c)))), hA_g1_4 (P.aa (c1 := (nx T (nx T c)))), hA_r6_0 (P.aa (c1 := (nx T (nx T c)))), hA_g6_2 (P.aa (c1 := (nx T (nx T c)))), hA_g0_13 (P.aa (c1 := (nx T (nx T c)))), hA_g0_14 (P.aa (c1 := (nx T (nx T c)))), hA_g0_15 (P.aa (c1 := (nx T (nx T c)))), hA_g0_16 (P.aa (c1 := (nx T (nx T c)))), bd_s])
        rw [g, kV_r]
        exact lnR_ok P hl2 OK hy
      · rw [if_neg q, q68_1, q68_2, p60_0 (d := d + 3) he P hl2, decide_eq_false q]
        exact lnR_er hAm
theorem l69 (he : e.1 ≤ a) (P : PS T a I A c y m) (W : OKA (2500 + y) A h s) (hy : y ≤ 500) : lnR T a I m (dN e (d + 5) 69 [.ref a] m) (pBack T (c, s, h, y)) := by
  have hl := P.2.2.2.2.1
  have hl1 := nx_lt hl
  have hl2 := nx_lt hl1
  have hl3 := nx_lt hl2
  have hl4 := nx_lt hl3
  have hAm := P.2.1
  have yb := W.y0
  obtain ⟨nb, nb1, nb2, nb3⟩ := W.nb
  rw [dN_at (j := 69) (as := [.ref a]) (m := m) (ls := [some (.ref a), none]) (hI_c0 P.1) rfl rfl rfl, dFu]
  conv => arg 5; rw [← P.mm]
  rw [pBack_e, q69_0]
  (try simp -implicitDefEqProofs only [hI_r0_0 (P.ii (c1 := c)), hI_r0_1 (P.ii (c1 := c)), hA_r0_0 (P.aa (c1 := c)), hA_r0_1 (P.aa (c1 := c)), hA_r0_5 (P.aa (c1 := c)), hA_r0_6 (P.aa (c1 := c)), hA_r1_0 (P.aa (c1 := c)), hA_g1_4 (P.aa (c1 := c)), hA_r6_0 (P.aa (c1 := c)), hA_g6_2 (P.aa (c1 := c)), hA_g0_13 (P.aa (c1 := c)), hA_g0_14 (P.aa (c1 := c)), hA_g0_15 (P.aa (c1 := c)), hA_g0_16 (P.aa (c1 := c)), bd_s])
  unfold pBox
  rw [nb2, nb1, p74c (d := d + 2) he P hl (by omega)]
  cases hr : pNum T (nx T c) 0 ((nb : Int) - 1) with
  | inl z => exact lnR_er hAm
  | inr k =>
    obtain ⟨-, -, -, k4⟩ := pNum_r hr
    have hk : k < nbS s := by omega
    have ko := k_lent (e := e) (d := d + 3) (a := a + 6) (m := (ov TI 6 a (setC I (nx T c)) m)) W.z hk
    rw [ov_self P.aa] at ko
    show lnR T a I m (kI (rI (Int32.ofNat k) (ov TI 6 a (setC I (nx T c)) m)) dPass _) _
    rw [kI_r, pB_r]
    (try simp -implicitDefEqProofs only [hI_r0_0 (P.ii (c1 := (nx T c))), hI_r0_1 (P.ii (c1 := (nx T c))), hA_r0_0 (P.aa (c1 := (nx T c))), hA_r0_1 (P.aa (c1 := (nx T c))), hA_r0_5 (P.aa (c1 := (nx T c))), hA_r0_6 (P.aa (c1 := (nx T c))), hA_r1_0 (P.aa (c1 := (nx T c))), hA_g1_4 (P.aa (c1 := (nx T c))), hA_r6_0 (P.aa (c1 := (nx T c))), hA_g6_2 (P.aa (c1 := (nx T c))), hA_g0_13 (P.aa (c1 := (nx T c))), hA_g0_14 (P.aa (c1 := (nx T c))), hA_g0_15 (P.aa (c1 := (nx T c))), hA_g0_16 (P.aa (c1 := (nx T c))), bd_s])
    rw [ko, kI_r]
    cases q : (!decide (bx s k 5 = nM1)) with
    | false =>
      rw [p60_f (d := d + 3) he P hl1]
      exact lnR_er hAm
    | true =>
      obtain ⟨A', g, OK⟩ := k_takeBack (e := e) (d := d + 1) (a := a + 6) (m := (ov TI 6 a (setC I (nx T c)) m)) (by omega) W hk
      rw [ov_self P.aa] at g
      rw [p60_t (d := d + 3) P, kV_r, pC_t]
      (try simp -implicitDefEqProofs only [hI_r0_0 (P.ii (c1 := (nx T c))), hI_r0_1 (P.ii (c1 := (nx T c))), hA_r0_0 (P.aa (c1 := (nx T c))), hA_r0_1 (P.aa (c1 := (nx T c))), hA_r0_5 (P.aa (c1 := (nx T c))), hA_r0_6 (P.aa (c1 := (nx T c))), hA_r1_0 (P.aa (c1 := (nx T c))), hA_g1_4 (P.aa (c1 := (nx T c))), hA_r6_0 (P.aa (c1 := (nx T c))), hA_g6_2 (P.aa (c1 := (nx T c))), hA_g0_13 (P.aa (c1 := (nx T c))), hA_g0_14 (P.aa (c1 := (nx T c))), hA_g0_15 (P.aa (c1 := (nx T c))), hA_g0_16 (P.aa (c1 := (nx T c))), bd_s])
      rw [g, kV_r]
      exact lnR_ok P hl1 OK hy
theorem l70 (he : e.1 ≤ a) (P : PS T a I A c y m) (W : OKA (2500 + y) A h s) (hy : y ≤ 500) : lnR T a I m (dN e (d + 5) 70 [.ref a] m) (pMove T (c, s, h, y)) := by
  have hl := P.2.2.2.2.1
  have hl1 := nx_lt hl
  have hl2 := nx_lt hl1
  have hl3 := nx_lt hl2
  have hl4 := nx_lt hl3
  have hAm := P.2.1
  have yb := W.y0
  rw [dN_at (j := 70) (as := [.ref a]) (m := m) (ls := [some (.ref a), none]) (hI_c0 P.1) rfl rfl rfl, dFu]
  conv => arg 5; rw [← P.mm]
  rw [pMove_e, q70_0]
  (try simp -implicitDefEqProofs only [hI_r0_0 (P.ii (c1 := c)), hI_r0_1 (P.ii (c1 := c)), hA_r0_0 (P.aa (c1 := c)), hA_r0_1 (P.aa (c1 := c)), hA_r0_5 (P.aa (c1 := c)), hA_r0_6 (P.aa (c1 := c)), hA_r1_0 (P.aa (c1 := c)), hA_g1_4 (P.aa (c1 := c)), hA_r6_0 (P.aa (c1 := c)), hA_g6_2 (P.aa (c1 := c)), hA_g0_13 (P.aa (c1 := c)), hA_g0_14 (P.aa (c1 := c)), hA_g0_15 (P.aa (c1 := c)), hA_g0_16 (P.aa (c1 := c)), bd_s])
  rw [p77 (d := d + 1) he P W.z hl]
  cases hr : pKept T (nx T c) s with
  | inl z => exact lnR_er hAm
  | inr k =>
    obtain ⟨k1, k2⟩ := pKept_r hr
    have k3 := (W.box k1).2.2
    show lnR T a I m (kI (rI (Int32.ofNat k) (ov TI 6 a (setC I (nx T c)) m)) dPass _) _
    rw [kI_r, pB_r]
    (try simp -implicitDefEqProofs only [hI_r0_0 (P.ii (c1 := (nx T c))), hI_r0_1 (P.ii (c1 := (nx T c))), hA_r0_0 (P.aa (c1 := (nx T c))), hA_r0_1 (P.aa (c1 := (nx T c))), hA_r0_5 (P.aa (c1 := (nx T c))), hA_r0_6 (P.aa (c1 := (nx T c))), hA_r1_0 (P.aa (c1 := (nx T c))), hA_g1_4 (P.aa (c1 := (nx T c))), hA_r6_0 (P.aa (c1 := (nx T c))), hA_g6_2 (P.aa (c1 := (nx T c))), hA_g0_13 (P.aa (c1 := (nx T c))), hA_g0_14 (P.aa (c1 := (nx T c))), hA_g0_15 (P.aa (c1 := (nx T c))), hA_g0_16 (P.aa (c1 := (nx T c))), bd_s])
    rw [p78 (d := d + 1) he P W.z hl1]
    cases hr3 : pFree T (nx T c) s h with
    | inl z => exact lnR_er hAm
    | inr r =>
      obtain ⟨r1, r2, r3⟩ := pFree_r W.2.2 hr3
      have hlr : r.2 < tN T := by rw [r3]; exact nx_lt (nx_lt hl1)
      show lnR T a I m (kI (rI (Int32.ofNat r.1) (ov TI 6 a (setC I r.2) m)) dPass _) _
      rw [kI_r, pB_r, hA_s12 P.aa (by omega) k3]
      (try simp only [bd_s])
      exact lnR_ok P hlr (OKA_move W k1 k2 r1) hy
theorem l71 (he : e.1 ≤ a) (P : PS T a I A c y m) (W : OKA (2500 + y) A h s) (hy : y ≤ 500) : lnR T a I m (dN e (d + 5) 71 [.ref a] m) (pStrike T (c, s, h, y)) := by
  have hl := P.2.2.2.2.1
  have hl1 := nx_lt hl
  have hl2 := nx_lt hl1
  have hl3 := nx_lt hl2
  have hl4 := nx_lt hl3
  have hAm := P.2.1
  have yb := W.y0
  obtain ⟨nb, nb1, nb2, nb3⟩ := W.nb
  rw [dN_at (j := 71) (as := [.ref a]) (m := m) (ls := [some (.ref a), none]) (hI_c0 P.1) rfl rfl rfl, dFu]
  conv => arg 5; rw [← P.mm]
  rw [pStrike_e, q71_0]
  (try simp -implicitDefEqProofs only [hI_r0_0 (P.ii (c1 := c)), hI_r0_1 (P.ii (c1 := c)), hA_r0_0 (P.aa (c1 := c)), hA_r0_1 (P.aa (c1 := c)), hA_r0_5 (P.aa (c1 := c)), hA_r0_6 (P.aa (c1 := c)), hA_r1_0 (P.aa (c1 := c)), hA_g1_4 (P.aa (c1 := c)), hA_r6_0 (P.aa (c1 := c)), hA_g6_2 (P.aa (c1 := c)), hA_g0_13 (P.aa (c1 := c)), hA_g0_14 (P.aa (c1 := c)), hA_g0_15 (P.aa (c1 := c)), hA_g0_16 (P.aa (c1 := c)), bd_s])
  unfold pBox
  rw [nb2, nb1, p74c (d := d + 2) he P hl (by omega)]
  cases hr : pNum T (nx T c) 0 ((nb : Int) - 1) with
  | inl z => exact lnR_er hAm
  | inr k =>
    obtain ⟨-, -, -, k4⟩ := pNum_r hr
    have hk : k < nbS s := by omega
    have ko := k_posOf (e := e) (d := d + 3) (a := a + 6) (m := (ov TI 6 a (setC I (nx T c)) m)) W (x := Int32.ofNat k)
    rw [ov_self P.aa] at ko
    show lnR T a I m (kI (rI (Int32.ofNat k) (ov TI 6 a (setC I (nx T c)) m)) dPass _) _
    rw [kI_r, pB_r]
    (try simp -implicitDefEqProofs only [hI_r0_0 (P.ii (c1 := (nx T c))), hI_r0_1 (P.ii (c1 := (nx T c))), hA_r0_0 (P.aa (c1 := (nx T c))), hA_r0_1 (P.aa (c1 := (nx T c))), hA_r0_5 (P.aa (c1 := (nx T c))), hA_r0_6 (P.aa (c1 := (nx T c))), hA_r1_0 (P.aa (c1 := (nx T c))), hA_g1_4 (P.aa (c1 := (nx T c))), hA_r6_0 (P.aa (c1 := (nx T c))), hA_g6_2 (P.aa (c1 := (nx T c))), hA_g0_13 (P.aa (c1 := (nx T c))), hA_g0_14 (P.aa (c1 := (nx T c))), hA_g0_15 (P.aa (c1 := (nx T c))), hA_g0_16 (P.aa (c1 := (nx T c))), bd_s])
    rw [ko, kI_r]
    unfold isLB anyB fI
    cases hp : fnd (nlS s) (fun i => decide (s (3 + i) = Int32.ofNat k)) with
    | none =>
      rw [if_pos (show oI none = nM1 from rfl), q71_1, q71_2, p60_0 (d := d + 3) he P hl1]
      exact lnR_er hAm
    | some p =>
      have hp24 := (fnd_some hp).1
      have hnl : nlS s ≤ 24 := W.2.1.2.1.2.2
      rw [if_neg (show ¬ oI (some p) = nM1 from by rw [oI_s, nEqM (by omega)]; exact id), q71_2, p60_1 (d := d + 3) P, kV_r]
      show lnR T a I m _ (pBn (pNum T (nx T (nx T c)) 1 20) _)
      (try simp -implicitDefEqProofs only [hI_r0_0 (P.ii (c1 := (nx T c))), hI_r0_1 (P.ii (c1 := (nx T c))), hA_r0_0 (P.aa (c1 := (nx T c))), hA_r0_1 (P.aa (c1 := (nx T c))), hA_r0_5 (P.aa (c1 := (nx T c))), hA_r0_6 (P.aa (c1 := (nx T c))), hA_r1_0 (P.aa (c1 := (nx T c))), hA_g1_4 (P.aa (c1 := (nx T c))), hA_r6_0 (P.aa (c1 := (nx T c))), hA_g6_2 (P.aa (c1 := (nx T c))), hA_g0_13 (P.aa (c1 := (nx T c))), hA_g0_14 (P.aa (c1 := (nx T c))), hA_g0_15 (P.aa (c1 := (nx T c))), hA_g0_16 (P.aa (c1 := (nx T c))), bd_s])
      rw [p74n (d := d + 2) he P hl1 (by omega) (by omega)]
      cases hr2 : pNum T (nx T (nx T c)) 1 20 with
      | inl z => exact lnR_er hAm
      | inr v =>
        obtain ⟨-, -, v1, v2⟩ := pNum_r hr2
        obtain ⟨A', g, OK⟩ := k_strike (e := e) (d := d + 2) (a := a + 6) (m := (ov TI 6 a (setC I (nx T (nx T c))) m)) (by omega) (by omega) W hk hp (y := v) (by omega)
        rw [ov_self P.aa] at g
        show lnR T a I m (kI (rI (Int32.ofNat v) (ov TI 6 a (setC I (nx T (nx T c))) m)) dPass _) _
        rw [kI_r, pB_r, g, kV_r]
        exact lnR_ok P hl2 OK hy
end
end

/-! ===== the reference reads and loads (printed by wip/whole/rd.py) ===== -/
noncomputable section
def tailP (T : dTok) (st : pSt) : pRs := pBn (bif decide (kd T st.1 = 59) then lnsP T (lineX T 2) 600 st else .inr st) fun st' => pC (decide (kd T st'.1 = 0)) 1 st'.1 (.inr st')
theorem textP_e {T : dTok} {sj hj : sV} : textP T sj hj = pC (isW T 0 (wd 0)) 1 0 (pBn (pNum T (nx T 0) 1900 2500) fun yr => pBn (pNum T (nx T (nx T 0)) 1 6) fun p => pBn (pNum T (nx T (nx T (nx T 0))) 1 8) fun q =>
  tailP T (nx T (nx T (nx T (nx T 0))), wr (zrF 315 sj) 0 (Int32.ofNat yr), wr (wr (zrF 118 hj) 0 (Int32.ofNat p)) 1 (Int32.ofNat q), 0)) := by
  unfold textP headP
  cases isW T 0 (wd 0) with
  | false => rfl
  | true =>
    rw [pC_t, pC_t]
    cases pNum T (nx T 0) 1900 2500 with
    | inl z => rfl
    | inr yr =>
      rw [pB_r, pB_r]
      cases pNum T (nx T (nx T 0)) 1 6 with
      | inl z => rfl
      | inr p =>
        rw [pB_r, pB_r]
        cases pNum T (nx T (nx T (nx T 0))) 1 8 with
        | inl z => rfl
        | inr q => rfl
/-- the numbers j .. n - 1 are zero -/
def zrJ (j n : Nat) (f : sV) : sV := fun k => if j ≤ k ∧ k < n then Int32.ofNat 0 else f k
theorem zrJ_0 {n : Nat} {f : sV} : zrJ 0 n f = zrF n f := by
  funext k
  unfold zrJ zrF
  by_cases q : k < n
  · rw [if_pos (by omega), if_pos q]
  · rw [if_neg (by omega), if_neg q]
theorem zrJ_n {n : Nat} {f : sV} : zrJ n n f = f := by
  funext k
  unfold zrJ
  rw [if_neg (by omega)]
theorem zrJ_s {j n : Nat} {f : sV} (h : j < n) : zrJ (j + 1) n (wr f j (Int32.ofNat 0)) = zrJ j n f := by
  funext k
  unfold zrJ
  by_cases q : k = j
  · rw [if_neg (by omega), if_pos (by omega), q, wr_s]
  · rw [wr_n q]
    by_cases q2 : j ≤ k ∧ k < n
    · rw [if_pos (by omega), if_pos q2]
    · rw [if_neg (by omega), if_neg q2]
/-- reading's answer: the token is the one behind the text -/
def rdR (T : dTok) (b : Nat) (m : dMem) (M : bX) (run : Option dRes) (r : pRs) : Prop := match r with
  | .inl z => ∃ M', run = some (.inl none, ov TM 8 b M' m) ∧ BAD T M' z ∧ mF M M'
  | .inr st => ∃ M', run = some (.inl none, ov TM 8 b M' m) ∧ RS T M' st.1 st.2.1 st.2.2.1 st.2.2.2 ∧ mF M M'
section
variable {e : dEnv} {d D b c x Y y : Nat} {T : dTok} {M : bX} {h s : sV} {m : dMem}
theorem rdR_seq {M2 : bX} {run : Option dRes} {r : pRs} (L : rdR T b m M2 run r) (F : mF M M2) : rdR T b m M run r := by
  cases r with
  | inl z =>
    obtain ⟨M', h1, h2, h3⟩ := L
    exact ⟨M', h1, h2, F.tr h3⟩
  | inr st =>
    obtain ⟨M', h1, h2, h3⟩ := L
    exact ⟨M', h1, h2, F.tr h3⟩
theorem RTc.f19 (Z : RTc T M c) {v : Int32} : RTc T (sF M 19 v) c := by
  obtain ⟨⟨t1, t2, t3⟩, ⟨u1, u2, u3, u4, u5⟩, z3⟩ := Z
  exact ⟨⟨t1, by rw [sF_n (by omega)]; exact t2, by rw [sF_i (by omega)]; exact t3⟩, ⟨by rw [sF_n (by omega)]; exact u1, by rw [sF_n (by omega)]; exact u2, by rw [sF_n (by omega)]; exact u3, by rw [sF_n (by omega)]; exact u4, u5⟩, by rw [sF_n (by omega)]; exact z3⟩
theorem z229_1 {cl : Nat → List Value → dMem → Option dRes} (he : e.1 ≤ b) : ∀ (n j : Nat) (M : bX) (t : Nat), j + n = 315 → runL e cl 229 (t + n + 1) 1 [some (.ref b), some (.int (Int32.ofNat j))] [] (ov TM 8 b M m) = runL e cl 229 t 2 [some (.ref b), none] [] (ov TM 8 b (uA M 2 (zrJ j 315 (M.1 2))) m) := by
  intro n
  induction n with
  | zero =>
    intro j M t hj
    have : j = 315 := by omega
    subst this
    rw [q229_1, if_neg (by decide +kernel), zrJ_n, uA_self]
  | succ n ih =>
    intro j M t hj
    rw [← Nat.add_assoc, q229_1, if_pos (by rw [nLt (by omega) (by omega)]; omega), M_r0_3]
    (try simp only [bd_s])
    rw [M_s2 he (by omega)]
    (try simp only [bd_s])
    rw [nAdd, ih (j + 1) _ t (by omega), uA_s, uA_uA, zrJ_s (by omega)]
theorem z229_3 {cl : Nat → List Value → dMem → Option dRes} (he : e.1 ≤ b) : ∀ (n j : Nat) (M : bX) (t : Nat), j + n = 118 → runL e cl 229 (t + n + 1) 3 [some (.ref b), some (.int (Int32.ofNat j))] [] (ov TM 8 b M m) = runL e cl 229 t 4 [some (.ref b), none] [] (ov TM 8 b (uA M 1 (zrJ j 118 (M.1 1))) m) := by
  intro n
  induction n with
  | zero =>
    intro j M t hj
    have : j = 118 := by omega
    subst this
    rw [q229_3, if_neg (by decide +kernel), zrJ_n, uA_self]
  | succ n ih =>
    intro j M t hj
    rw [← Nat.add_assoc, q229_3, if_pos (by rw [nLt (by omega) (by omega)]; omega), M_r0_2]
    (try simp only [bd_s])
    rw [M_s1 he (by omega)]
    (try simp only [bd_s])
    rw [nAdd, ih (j + 1) _ t (by omega), uA_s, uA_uA, zrJ_s (by omega)]
theorem r229_b7 {z : dErr} (B : BAD T M z) (t : Nat) : runL e (dN e (d + 12)) 229 (t + 4) 7 [some (.ref b), none] [] (ov TM 8 b M m) = some (.inl none, ov TM 8 b M m) := by
  rw [q229_7, M_g0_16]
  (try simp only [bd_s])
  rw [if_neg B.ne, q229_8, M_g0_14]
  (try simp only [bd_s])
  split
  · rw [q229_9, q229_10, b209 (d := d + 10) B.ne, kV_r]
  · rw [q229_10, b209 (d := d + 10) B.ne, kV_r]
/-- the lines of the text, and its end -/
theorem r229_7 (he : e.1 ≤ b) (S : hSt e x m) (hx : x ≤ b) (Z : RS T M c s h y) (hc : 1 ≤ c) {t : Nat} (ht : 700 ≤ t) : rdR T b m M (runL e (dN e (d + 12)) 229 t 7 [some (.ref b), none] [] (ov TM 8 b M m)) (tailP T (c, s, h, y)) := by
  have hT := Z.1.1.1
  have hN : tN T ≤ 601 := by
    have h1 := hT.1.2.1
    have h2 := hT.1.2.2.1
    omega
  have Q := lnG (D := d + 10) (T := T) (m := m) (lo := 20) he (k := Int32.ofNat 0) (f := lineX T 2) (G := fun t m => runL e (dN e (d + 12)) 229 t 7 [some (.ref b), none] [] m) (E := fun t m => runL e (dN e (d + 12)) 229 t 8 [some (.ref b), none] [] m) (fun t m => by
    show runL e (dN e (d + 12)) 229 (t + 1) 7 _ [] m = _
    rw [q229_7]) (GE_X 2) (r228_all (d := d) he S hx 2 0 (by omega)) 600 M c y s h t (by omega) (by omega) Z
  show rdR T b m M _ (pBn (bif decide (kd T c = 59) then lnsP T (lineX T 2) 600 (c, s, h, y) else .inr (c, s, h, y)) fun st' => pC (decide (kd T st'.1 = 0)) 1 st'.1 (.inr st'))
  generalize (bif decide (kd T c = 59) then lnsP T (lineX T 2) 600 (c, s, h, y) else .inr (c, s, h, y) : pRs) = X at Q ⊢
  cases X with
  | inl z =>
    obtain ⟨M3, w, hw, g3, B3, F3⟩ := Q
    obtain ⟨v, rfl⟩ : ∃ v, w = v + 3 := ⟨w - 3, by omega⟩
    have g3' : runL e (dN e (d + 12)) 229 t 7 [some (.ref b), none] [] (ov TM 8 b M m) = runL e (dN e (d + 12)) 229 (v + 3) 8 [some (.ref b), none] [] (ov TM 8 b M3 m) := g3
    refine ⟨M3, ?_, B3, F3⟩
    rw [g3', q229_8, M_g0_14]
    (try simp only [bd_s])
    split
    · rw [q229_9, q229_10, b209 (d := d + 10) B3.ne, kV_r]
    · rw [q229_10, b209 (d := d + 10) B3.ne, kV_r]
  | inr st =>
    obtain ⟨c3, s3, h3, y3⟩ := st
    obtain ⟨M3, w, hw, g3, Z3, F3⟩ := Q
    have Z3' : RS T M3 c3 s3 h3 y3 := Z3
    have hl3 := Z3'.1.2.1.2.2.2.2
    obtain ⟨v, rfl⟩ : ∃ v, w = v + 3 := ⟨w - 3, by omega⟩
    have g3' : runL e (dN e (d + 12)) 229 t 7 [some (.ref b), none] [] (ov TM 8 b M m) = runL e (dN e (d + 12)) 229 (v + 3) 8 [some (.ref b), none] [] (ov TM 8 b M3 m) := g3
    rw [g3', q229_8, M_g0_14, Z3'.1.2.1.2.2.1, pB_r]
    (try simp only [bd_s])
    show rdR T b m M _ (pC (decide (kd T c3 = 0)) 1 c3 (.inr (c3, s3, h3, y3)))
    by_cases q : kd T c3 = 0
    · rw [if_pos (by rw [srt_k hT hl3 (k := 0) (by omega)]; exact q), q229_9, q229_10, m209_0 (d := d + 10), kV_r, decide_eq_true q, pC_t]
      exact ⟨M3, rfl, Z3', F3⟩
    · have B4 := flM_B Z3'.1 (k := 1) (by omega) (by omega)
      rw [if_neg (by rw [srt_k hT hl3 (k := 0) (by omega)]; exact q), q229_10, m209_1 (d := d + 10) he Z3'.1.2.2, kV_r, decide_eq_false q]
      exact ⟨_, rfl, B4, F3.tr flM_E.f⟩
/-- the head behind an error: numbers are written, the error stays -/
theorem r229_b6 (he : e.1 ≤ b) {z : dErr} (B : BAD T M z) (t : Nat) : ∃ M', runL e (dN e (d + 12)) 229 (t + 5) 6 [some (.ref b), none] [.int (Int32.ofNat 0), .ref b] (ov TM 8 b M m) = some (.inl none, ov TM 8 b M' m) ∧ BAD T M' z ∧ mF M M' := by
  have B1 : ∀ g : sV, BAD T (uA M 2 g) z := fun g => B.c0 (uA_n (by omega))
  have B2 : ∀ g k : sV, BAD T (uA (uA M 2 g) 1 k) z := fun g k => (B1 g).c0 (uA_n (by omega))
  refine ⟨uA (uA (uA M 2 (wr (M.1 2) 0 (Int32.ofNat 1900))) 1 (wr ((uA M 2 (wr (M.1 2) 0 (Int32.ofNat 1900))).1 1) 0 (Int32.ofNat 1))) 1 (wr ((uA (uA M 2 (wr (M.1 2) 0 (Int32.ofNat 1900))) 1 (wr ((uA M 2 (wr (M.1 2) 0 (Int32.ofNat 1900))).1 1) 0 (Int32.ofNat 1))).1 1) 1 (Int32.ofNat 1)), ?_, (B2 _ _).c0 (uA_n (by omega)), mF_2.tr (mF_1.tr mF_1)⟩
  rw [q229_6, b209 (d := d + 10) B.ne, kV_r, b210 (d := d + 9) B.ne, kV_r, M_r0_3]
  (try simp only [bd_s])
  rw [b213 (d := d + 8) B.ne, kI_r, M_s2 he (by omega)]
  (try simp only [bd_s])
  rw [M_r0_2]
  (try simp only [bd_s])
  rw [b213 (d := d + 8) (B1 _).ne, kI_r, M_s1 he (by omega)]
  (try simp only [bd_s])
  rw [M_r0_2]
  (try simp only [bd_s])
  rw [b213 (d := d + 8) (B2 _ _).ne, kI_r, M_s1 he (by omega)]
  (try simp only [bd_s])
  rw [r229_b7 ((B2 _ _).c0 (uA_n (by omega)))]
theorem r229 (he : e.1 ≤ b) (S : hSt e x m) (hx : x ≤ b) (Z : RTc T M 0) : rdR T b m M (dN e (d + 13) 229 [.ref b] (ov TM 8 b M m)) (textP T (M.1 2) (M.1 1)) := by
  have hT := Z.1.1
  rw [dN_at (j := 229) (as := [.ref b]) (m := ov TM 8 b M m) (ls := [some (.ref b), none]) M_c0 rfl rfl rfl, dFu, textP_e, q229_0, show 3999900 + 99 = (3999900 - 217) + 315 + 1 from rfl, z229_1 he 315 0 M _ (by omega), q229_2, show 3999682 = 3999563 + 118 + 1 from rfl, z229_3 he 118 0 _ _ (by omega), zrJ_0, zrJ_0, uA_n (show (1 : Nat) ≠ 2 by omega)]
  have Z2 : RTc T (sF (uA (uA M 2 (zrF 315 (M.1 2))) 1 (zrF 118 (M.1 1))) 19 (Int32.ofNat 0)) 0 := RTc.f19 Z.k2.k1
  have F2 : mF M (sF (uA (uA M 2 (zrF 315 (M.1 2))) 1 (zrF 118 (M.1 1))) 19 (Int32.ofNat 0)) := mF_2.tr (mF_1.tr mF_19)
  have i1 : (sF (uA (uA M 2 (zrF 315 (M.1 2))) 1 (zrF 118 (M.1 1))) 19 (Int32.ofNat 0)).1 1 = zrF 118 (M.1 1) := by rw [sF_i (by omega), uA_s]
  have i2 : (sF (uA (uA M 2 (zrF 315 (M.1 2))) 1 (zrF 118 (M.1 1))) 19 (Int32.ofNat 0)).1 2 = zrF 315 (M.1 2) := by rw [sF_i (by omega), uA_n (by omega), uA_s]
  have i19 : (sF (uA (uA M 2 (zrF 315 (M.1 2))) 1 (zrF 118 (M.1 1))) 19 (Int32.ofNat 0)).1 0 19 = Int32.ofNat 0 := sF_s
  rw [q229_4, M_F19 he]
  (try simp only [bd_s])
  generalize sF (uA (uA M 2 (zrF 315 (M.1 2))) 1 (zrF 118 (M.1 1))) 19 (Int32.ofNat 0) = M2 at Z2 F2 i1 i2 i19 ⊢
  have g5 := m211 (e := e) (d := d + 9) (m := m) (x := x) Z2 S hx (k := 29) (by omega)
  rw [g5, kI_r, show wd 29 = wd 0 from rfl]
  cases hw : isW T 0 (wd 0) with
  | false =>
    have B := flM_B Z2 (k := 1) (by omega) (by omega)
    obtain ⟨M3, g3, B3, F3⟩ := r229_b6 (e := e) (d := d) (m := m) he B 3999557
    rw [if_pos (by decide +kernel)]
    refine ⟨M3, ?_, B3, F2.tr (flM_E.f.tr F3)⟩
    rw [← g3]
    show runL e (dN e (d + 12)) 229 (3999561 + 1) 6 _ _ _ = runL e (dN e (d + 12)) 229 (3999561 + 1) 6 _ _ _
    rw [q229_6, m209_1 (d := d + 10) he Z2.2.2, kV_r, q229_6, b209 (d := d + 10) B.ne, kV_r]
  | true =>
    obtain ⟨M3, g3, Z3, E3⟩ := m210 (e := e) (d := d + 9) (m := m) he Z2
    rw [if_neg (by decide +kernel), q229_5, q229_6, m209_0 (d := d + 10), kV_r, g3, kV_r, M_r0_3, pC_t]
    (try simp only [bd_s])
    have L4 := m213n (e := e) (d := d + 8) (m := m) he Z3 (lo := 1900) (hi := 2500) (by omega) (by omega)
    have s3 : M3.1 2 = zrF 315 (M.1 2) := (E3.1 2 (by omega)).trans i2
    have h3 : M3.1 1 = zrF 118 (M.1 1) := (E3.1 1 (by omega)).trans i1
    cases hr : pNum T (nx T 0) 1900 2500 with
    | inl z =>
      rw [show ((2500 : Nat) : Int) = 2500 from rfl, hr] at L4
      obtain ⟨M4, g4, B, E4⟩ := L4
      have B1 : ∀ g : sV, BAD T (uA M4 2 g) z := fun g => B.c0 (uA_n (by omega))
      have B2 : ∀ g k : sV, BAD T (uA (uA M4 2 g) 1 k) z := fun g k => (B1 g).c0 (uA_n (by omega))
      rw [g4, kI_r, M_s2 he (by omega)]
      (try simp only [bd_s])
      rw [M_r0_2]
      (try simp only [bd_s])
      rw [b213 (d := d + 8) (B1 _).ne, kI_r, M_s1 he (by omega)]
      (try simp only [bd_s])
      rw [M_r0_2]
      (try simp only [bd_s])
      rw [b213 (d := d + 8) (B2 _ _).ne, kI_r, M_s1 he (by omega)]
      (try simp only [bd_s])
      show rdR T b m M (runL e (dN e (d + 12)) 229 (3999556 + 4) 7 _ _ _) _
      rw [r229_b7 ((B2 _ _).c0 (uA_n (by omega)))]
      exact ⟨_, rfl, (B2 _ _).c0 (uA_n (by omega)), F2.tr (E3.f.tr (E4.f.tr (mF_2.tr (mF_1.tr mF_1))))⟩
    | inr yr =>
      obtain ⟨-, -, y1, y2⟩ := pNum_r hr
      rw [show ((2500 : Nat) : Int) = 2500 from rfl, hr] at L4
      obtain ⟨M4, g4, Z4, E4⟩ := L4
      have s4 : M4.1 2 = zrF 315 (M.1 2) := (E4.1 2 (by omega)).trans s3
      have h4 : M4.1 1 = zrF 118 (M.1 1) := (E4.1 1 (by omega)).trans h3
      rw [g4, kI_r, M_s2 he (by omega), s4, pB_r]
      (try simp only [bd_s])
      rw [M_r0_2]
      (try simp only [bd_s])
      have L5 := m213n (e := e) (d := d + 8) (m := m) he (Z4.k2 (g := wr (zrF 315 (M.1 2)) 0 (Int32.ofNat yr))) (lo := 1) (hi := 6) (by omega) (by omega)
      cases hr2 : pNum T (nx T (nx T 0)) 1 6 with
      | inl z =>
        rw [show ((6 : Nat) : Int) = 6 from rfl, hr2] at L5
        obtain ⟨M5, g5, B, E5⟩ := L5
        have B1 : ∀ g : sV, BAD T (uA M5 1 g) z := fun g => B.c0 (uA_n (by omega))
        rw [g5, kI_r, M_s1 he (by omega)]
        (try simp only [bd_s])
        rw [M_r0_2]
        (try simp only [bd_s])
        rw [b213 (d := d + 8) (B1 _).ne, kI_r, M_s1 he (by omega)]
        (try simp only [bd_s])
        show rdR T b m M (runL e (dN e (d + 12)) 229 (3999556 + 4) 7 _ _ _) _
        rw [r229_b7 ((B1 _).c0 (uA_n (by omega)))]
        exact ⟨_, rfl, (B1 _).c0 (uA_n (by omega)), F2.tr (E3.f.tr (E4.f.tr (mF_2.tr (E5.f.tr (mF_1.tr mF_1)))))⟩
      | inr p =>
        obtain ⟨-, -, p1, p2⟩ := pNum_r hr2
        rw [show ((6 : Nat) : Int) = 6 from rfl, hr2] at L5
        obtain ⟨M5, g5, Z5, E5⟩ := L5
        have s5 : M5.1 2 = wr (zrF 315 (M.1 2)) 0 (Int32.ofNat yr) := (E5.1 2 (by omega)).trans (uA_s _ _ _)
        have h5 : M5.1 1 = zrF 118 (M.1 1) := (E5.1 1 (by omega)).trans ((uA_n (by omega)).trans h4)
        rw [g5, kI_r, M_s1 he (by omega), h5, pB_r]
        (try simp only [bd_s])
        rw [M_r0_2]
        (try simp only [bd_s])
        have L6 := m213n (e := e) (d := d + 8) (m := m) he (Z5.k1 (g := wr (zrF 118 (M.1 1)) 0 (Int32.ofNat p))) (lo := 1) (hi := 8) (by omega) (by omega)
        cases hr3 : pNum T (nx T (nx T (nx T 0))) 1 8 with
        | inl z =>
          rw [show ((8 : Nat) : Int) = 8 from rfl, hr3] at L6
          obtain ⟨M6, g6, B, E6⟩ := L6
          rw [g6, kI_r, M_s1 he (by omega)]
          (try simp only [bd_s])
          show rdR T b m M (runL e (dN e (d + 12)) 229 (3999556 + 4) 7 _ _ _) _
          rw [r229_b7 (B.c0 (uA_n (by omega)))]
          exact ⟨_, rfl, B.c0 (uA_n (by omega)), F2.tr (E3.f.tr (E4.f.tr (mF_2.tr (E5.f.tr (mF_1.tr (E6.f.tr mF_1))))))⟩
        | inr q =>
          obtain ⟨-, -, q1, q2⟩ := pNum_r hr3
          rw [show ((8 : Nat) : Int) = 8 from rfl, hr3] at L6
          obtain ⟨M6, g6, Z6, E6⟩ := L6
          have s6 : M6.1 2 = wr (zrF 315 (M.1 2)) 0 (Int32.ofNat yr) := (E6.1 2 (by omega)).trans ((uA_n (by omega)).trans s5)
          have h6 : M6.1 1 = wr (zrF 118 (M.1 1)) 0 (Int32.ofNat p) := (E6.1 1 (by omega)).trans (uA_s _ _ _)
          have y6 : M6.1 0 19 = Int32.ofNat 0 := by rw [E6.2 19 (by omega), uA_n (by omega), E5.2 19 (by omega), uA_n (by omega), E4.2 19 (by omega), E3.2 19 (by omega), i19]
          rw [g6, kI_r, M_s1 he (by omega), h6, pB_r]
          (try simp only [bd_s])
          have W0 := OKA_begin (A := M) (sj := M.1 2) (hj := M.1 1) (yr := yr) (p := p) (q := q) (by omega) (by omega) (by omega) (by omega) (by omega) (by omega)
          have hc1 : 1 ≤ nx T (nx T (nx T (nx T 0))) := by
            have k1 : tK T 0 = 1 := by
              rcases Decidable.em (tK T 0 = 1) with w | w
              · exact w
              · unfold isW at hw
                rw [decide_eq_false w, Bool.false_and] at hw
                cases hw
            have l1 := hT.lt (c := 0) (by have := hT.1.1; omega) (by omega)
            have n1 : nx T 0 = 1 := if_pos l1
            rw [n1]
            exact nx_g1 (nx_g1 nx_ge)
          have ZS : RS T (uA M6 1 (wr (wr (zrF 118 (M.1 1)) 0 (Int32.ofNat p)) 1 (Int32.ofNat q))) (nx T (nx T (nx T (nx T 0)))) (wr (zrF 315 (M.1 2)) 0 (Int32.ofNat yr)) (wr (wr (zrF 118 (M.1 1)) 0 (Int32.ofNat p)) 1 (Int32.ofNat q)) 0 := ⟨Z6.k1, (by rw [uA_n (by omega)]; exact y6), uA_s _ _ _, (by rw [uA_n (by omega)]; exact s6), W0.2.1, W0.2.2, by omega⟩
          exact rdR_seq (r229_7 (d := d) he S hx ZS hc1 (by omega)) (F2.tr (E3.f.tr (E4.f.tr (mF_2.tr (E5.f.tr (mF_1.tr (E6.f.tr mF_1)))))))
end
end

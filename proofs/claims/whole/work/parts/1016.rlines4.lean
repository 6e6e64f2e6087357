/-! ===== a line, lines and repeats, as the reference reads them (printed by wip/whole/rl4.py) ===== -/
noncomputable section
/-- the place a text's result stands at is never before c -/
def GE (c : Nat) (r : pRs) : Prop := ∀ st, r = .inr st → c ≤ st.1
theorem GE_i {c : Nat} {st : pSt} (h : c ≤ st.1) : GE c (.inr st) := by
  intro st' q
  cases q
  exact h
theorem GE_l {c : Nat} {z : dErr} : GE c (.inl z) := by
  intro st' q
  cases q
theorem GE_C {c k c1 : Nat} {b : Bool} {r : pRs} (h : GE c r) : GE c (pC b k c1 r) := by
  cases b with
  | true => exact h
  | false => exact GE_l
theorem GE_B {α : Type} {c : Nat} {r : dErr ⊕ α} {f : α → pRs} (h : ∀ a, r = .inr a → GE c (f a)) : GE c (pBn r f) := by
  cases r with
  | inl z => exact GE_l
  | inr a => exact h a rfl
theorem GE_b {c : Nat} {b : Bool} {r r2 : pRs} (h : GE c r) (h2 : GE c r2) : GE c (bif b then r else r2) := by
  cases b with
  | true => exact h
  | false => exact h2
theorem nx_ge {T : dTok} {c : Nat} : c ≤ nx T c := by
  unfold nx
  split <;> omega
theorem nx_g1 {T : dTok} {c a : Nat} (h : c ≤ a) : c ≤ nx T a := Nat.le_trans h nx_ge
theorem pFree_2 {T : dTok} {c : Nat} {s h : sV} {r : Nat × Nat} (q : pFree T c s h = .inr r) : r.2 = nx T (nx T c) := by
  unfold pFree at q
  cases h1 : pNum T (nx T c) 0 ((nN (h 0) : Int) - 1) with
  | inl z => rw [h1] at q; cases q
  | inr i =>
    rw [h1, pB_r] at q
    cases h2 : pNum T (nx T (nx T c)) 0 ((nN (h 1) : Int) - 1) with
    | inl z => rw [h2] at q; cases q
    | inr j =>
      rw [h2, pB_r] at q
      cases h3 : decide (boxOnS s (Int32.ofNat (i * nN (h 1) + j)) = nM1) with
      | false => rw [h3] at q; cases q
      | true =>
        rw [h3, pC_t] at q
        cases q
        rfl
theorem GE_ln {T : dTok} {f : pSt → pRs} (hf : ∀ st, GE st.1 (f st)) : ∀ n st, GE st.1 (lnsP T f n st) := by
  intro n
  induction n with
  | zero => intro st; exact GE_i (Nat.le_refl _)
  | succ n ih =>
    intro st
    show GE st.1 (pBn (f (nx T st.1, st.2)) fun st' => bif decide (kd T (nx T st'.1) = 59) then lnsP T f n (nx T st'.1, st'.2) else .inr (nx T st'.1, st'.2))
    refine GE_B fun a q => ?_
    have h1 : nx T st.1 ≤ a.1 := hf (nx T st.1, st.2) a q
    have h2 : st.1 ≤ nx T a.1 := nx_g1 (Nat.le_trans nx_ge h1)
    exact GE_b (fun z hz => Nat.le_trans h2 (ih (nx T a.1, a.2) z hz)) (GE_i h2)
theorem GE_rp {T : dTok} {f : pSt → pRs} (hf : ∀ st, GE st.1 (f st)) {c b : Nat} (hb : c ≤ b) : ∀ n st, c ≤ st.1 → GE c (repP T f n b st) := by
  intro n
  induction n with
  | zero => intro st h; exact GE_i h
  | succ n ih =>
    intro st h
    show GE c (pBn (lnsP T f 600 (b, st.2)) fun st' => pC (decide (kd T st'.1 = 41)) 1 st'.1 (repP T f n b st'))
    refine GE_B fun a q => GE_C (ih a (Nat.le_trans hb (GE_ln hf 600 (b, st.2) a q)))
theorem GE_if {p : Prop} [Decidable p] {c : Nat} {r r2 : pRs} (h : GE c r) (h2 : GE c r2) : GE c (if p then r else r2) := by
  split
  · exact h
  · exact h2
theorem GE_line {T : dTok} {rp : Nat → Nat → pSt → pRs} {dp : Bool} (hr : ∀ t b st, st.1 ≤ b → GE st.1 (rp t b st)) (st : pSt) : GE st.1 (lineP T rp dp st) := by
  obtain ⟨c, s, h, y⟩ := st
  show GE c (lineP T rp dp (c, s, h, y))
  unfold lineP
  refine GE_if ?_ ?_
  · exact GE_C (GE_B fun _ _ => GE_B fun _ _ => GE_B fun _ _ => GE_b (GE_i (nx_g1 (nx_g1 (nx_g1 nx_ge)))) (GE_i (nx_g1 (nx_g1 nx_ge))))
  refine GE_if ?_ ?_
  · refine GE_C (GE_B fun _ _ => GE_B fun _ _ => GE_b (GE_B fun r q => GE_i ?_) (GE_i (nx_g1 nx_ge)))
    show c ≤ r.2
    rw [pFree_2 q]
    exact nx_g1 (nx_g1 (nx_g1 (nx_g1 nx_ge)))
  refine GE_if ?_ ?_
  · exact GE_C (GE_B fun _ _ => GE_B fun _ _ => GE_i (nx_g1 nx_ge))
  refine GE_if ?_ ?_
  · exact GE_B fun _ _ => GE_B fun _ _ => GE_i (nx_g1 nx_ge)
  refine GE_if ?_ ?_
  · exact GE_B fun _ _ => GE_B fun _ _ => GE_C (GE_i (nx_g1 nx_ge))
  refine GE_if ?_ ?_
  · exact GE_B fun _ _ => GE_C (GE_i nx_ge)
  refine GE_if ?_ ?_
  · refine GE_B fun _ _ => GE_B fun r q => GE_i ?_
    show c ≤ r.2
    rw [pFree_2 q]
    exact nx_g1 (nx_g1 nx_ge)
  refine GE_if ?_ ?_
  · exact GE_i (Nat.le_refl _)
  refine GE_if ?_ ?_
  · exact GE_B fun _ _ => GE_C (GE_B fun _ _ => GE_i (nx_g1 nx_ge))
  refine GE_if ?_ ?_
  · exact GE_i (Nat.le_refl _)
  refine GE_if ?_ ?_
  · exact GE_B fun _ _ => GE_C (GE_i nx_ge)
  · refine GE_C (GE_C (GE_B fun t _ => GE_C ?_))
    intro z hz
    exact Nat.le_trans (nx_g1 nx_ge) (hr t (nx T (nx T c)) (nx T (nx T c), s, h, y) (Nat.le_refl _) z hz)
theorem GE_X {T : dTok} : ∀ r st, GE st.1 (lineX T r st) := by
  intro r
  induction r with
  | zero => intro st; exact GE_line (fun t b st h => GE_i (Nat.le_refl _)) st
  | succ r ih => intro st; exact GE_line (fun t b st h => GE_rp ih h t st (Nat.le_refl _)) st
/-- the reference stands at the token c with these rows -/
def RS (T : dTok) (M : bX) (c : Nat) (s h : sV) (y : Nat) : Prop := RTc T M c ∧ M.1 0 19 = Int32.ofNat y ∧ M.1 1 = h ∧ M.1 2 = s ∧ WS (2500 + y) h s ∧ WH h ∧ y ≤ 500
theorem RS.e {T : dTok} {M M' : bX} {c c' y : Nat} {s h : sV} (Z : RS T M c s h y) (E : mE M M') (Z' : RTc T M' c') : RS T M' c' s h y := ⟨Z', (E.2 19 (by omega)).trans Z.2.1, (E.1 1 (by omega)).trans Z.2.2.1, (E.1 2 (by omega)).trans Z.2.2.2.1, Z.2.2.2.2⟩
/-- a loop over lines ends in its exit -/
def lgR (T : dTok) (b : Nat) (m : dMem) (M : bX) (run : Option dRes) (E : Nat → dMem → Option dRes) (lo : Nat) (r : pRs) : Prop := match r with
  | .inl z => ∃ M' u, lo ≤ u ∧ run = E u (ov TM 8 b M' m) ∧ BAD T M' z ∧ mF M M'
  | .inr st => ∃ M' u, lo ≤ u ∧ run = E u (ov TM 8 b M' m) ∧ RS T M' st.1 st.2.1 st.2.2.1 st.2.2.2 ∧ mF M M'
theorem lgR_seq {T : dTok} {b : Nat} {m : dMem} {M M2 : bX} {run : Option dRes} {E : Nat → dMem → Option dRes} {lo : Nat} {r : pRs} (h : lgR T b m M2 run E lo r) (F : mF M M2) : lgR T b m M run E lo r := by
  cases r with
  | inl z =>
    obtain ⟨M', u, h1, h2, h3, h4⟩ := h
    exact ⟨M', u, h1, h2, h3, F.tr h4⟩
  | inr st =>
    obtain ⟨M', u, h1, h2, h3, h4⟩ := h
    exact ⟨M', u, h1, h2, h3, F.tr h4⟩
section
variable {e : dEnv} {d D b c x Y y : Nat} {T : dTok} {M : bX} {h s : sV} {m : dMem}
/-- lines -/
theorem lnG (he : e.1 ≤ b) {G E : Nat → dMem → Option dRes} {k : Int32} {f : pSt → pRs} (hG : ∀ t m, G (t + 1) m = ((gI m b 10 16).bind fun v1 => (if v1 = Int32.ofNat 0 then ((gI m b 10 14).bind fun v2 => (if v2 = (Int32.ofNat 3) then (kV (dN e (D + 2) 207 [.ref b] m) dPass fun m3 => (kV (dN e (D + 2) 228 [.ref b, .int k] m3) dPass fun m4 => G t m4)) else E t m)) else E t m))) (hf : ∀ st, GE st.1 (f st)) (H : ∀ (M : bX) (c y : Nat) (s h : sV), RS T M c s h y → rlR T b m M (dN e (D + 2) 228 [.ref b, .int k] (ov TM 8 b M m)) (f (c, s, h, y))) {lo : Nat} : ∀ (n : Nat) (M : bX) (c y : Nat) (s h : sV) (t : Nat), tN T ≤ c + n → n + 2 + lo ≤ t → RS T M c s h y → lgR T b m M (G t (ov TM 8 b M m)) E lo (bif decide (kd T c = 59) then lnsP T f n (c, s, h, y) else .inr (c, s, h, y)) := by
  intro n
  induction n with
  | zero =>
    intro M c y s h t hn ht Z
    have hl := Z.1.2.1.2.2.2.2
    omega
  | succ n ih =>
    intro M c y s h t hn ht Z
    obtain ⟨u, rfl⟩ : ∃ u, t = u + 1 := ⟨t - 1, by omega⟩
    have hl := Z.1.2.1.2.2.2.2
    have hT := Z.1.1.1
    rw [hG, M_g0_16, Z.1.2.2]
    (try simp only [bd_s])
    rw [if_pos (by trivial), M_g0_14, Z.1.2.1.2.2.1]
    (try simp only [bd_s])
    by_cases q : kd T c = 59
    · have hc1 : c + 1 < tN T := hT.lt hl (by
        intro z
        unfold kd at q
        split at q <;> omega)
      rw [if_pos (by rw [srt_k hT hl (k := 59) (by omega)]; exact q), decide_eq_true q]
      obtain ⟨M1, g1, R1, E1, b1⟩ := m207 (e := e) (d := D) (m := m) he Z.1.1 (nx_lt hl) (GO_nx hT hl) Z.1.2.1.1
      have Z1 : RS T M1 (nx T c) s h y := Z.e E1 ⟨Z.1.1.e E1, R1, b1.trans Z.1.2.2⟩
      have L := H M1 (nx T c) y s h Z1
      rw [g1, kV_r]
      show lgR T b m M _ E lo (pBn (f (nx T c, s, h, y)) fun st' => bif decide (kd T (nx T st'.1) = 59) then lnsP T f n (nx T st'.1, st'.2) else .inr (nx T st'.1, st'.2))
      have hp := hf (nx T c, s, h, y)
      cases hr : f (nx T c, s, h, y) with
      | inl z =>
        rw [hr] at L
        obtain ⟨M2, g2, B2, F2⟩ := L
        obtain ⟨w, rfl⟩ : ∃ w, u = w + 1 := ⟨u - 1, by omega⟩
        rw [g2, kV_r, hG, M_g0_16]
        (try simp only [bd_s])
        rw [if_neg B2.ne]
        exact ⟨M2, w, by omega, rfl, B2, E1.f.tr F2⟩
      | inr st =>
        have hp2 := hp st hr
        rw [hr] at L
        obtain ⟨c2, s2, h2, y2⟩ := st
        obtain ⟨M2, g2, R2, f2, i2, j2, W2, H2, y22, F2⟩ := L
        have n1 : nx T c = c + 1 := if_pos hc1
        have n2 : c2 ≤ nx T c2 := nx_ge
        have hp3 : nx T c ≤ c2 := hp2
        rw [g2, kV_r, pB_r]
        exact lgR_seq (ih M2 (nx T c2) y2 s2 h2 u (by omega) (by omega) ⟨R2, f2, j2, i2, W2, H2, y22⟩) (E1.f.tr F2)
    · rw [if_neg (by rw [srt_k hT hl (k := 59) (by omega)]; exact q), decide_eq_false q]
      exact ⟨M, u, by omega, rfl, Z, mF.rf⟩
theorem rlR_seq {M2 : bX} {run : Option dRes} {r : pRs} (L : rlR T b m M2 run r) (F : mF M M2) : rlR T b m M run r := by
  cases r with
  | inl z =>
    obtain ⟨M', h1, h2, h3⟩ := L
    exact ⟨M', h1, h2, F.tr h3⟩
  | inr st =>
    obtain ⟨M', h1, h2, h3, h4, h5, h6, h7, h8, h9⟩ := L
    exact ⟨M', h1, h2, h3, h4, h5, h6, h7, h8, F.tr h9⟩
/-- the end of a repeat behind an error -/
theorem r227_b5 {k tm bg j : Int32} {z : dErr} (B : BAD T M z) (t : Nat) : runL e (dN e (d + 6)) 227 (t + 2) 5 [some (.ref b), some (.int k), some (.int tm), some (.int bg), some (.int j)] [] (ov TM 8 b M m) = some (.inl none, ov TM 8 b M m) := by
  rw [q227_5, M_g0_16]
  (try simp only [bd_s])
  rw [if_neg B.ne, q227_10, b210 (d := d + 3) B.ne, kV_r]
theorem r227_b4 {k tm v : Int32} {z : dErr} (B : BAD T M z) (t : Nat) : runL e (dN e (d + 6)) 227 (t + 3) 4 [some (.ref b), some (.int k), some (.int tm), none, none] [.int v, .ref b] (ov TM 8 b M m) = some (.inl none, ov TM 8 b M m) := by
  rw [q227_4, b209 (d := d + 4) B.ne, kV_r, M_g0_12]
  (try simp only [bd_s])
  rw [r227_b5 B]
theorem r227_b3 {k tm v : Int32} {z : dErr} (B : BAD T M z) (t : Nat) : (if v = Int32.ofNat 5 then runL e (dN e (d + 6)) 227 (t + 4) 3 [some (.ref b), some (.int k), some (.int tm), none, none] [.ref b] (ov TM 8 b M m) else runL e (dN e (d + 6)) 227 (t + 4) 4 [some (.ref b), some (.int k), some (.int tm), none, none] [.int (Int32.ofNat 1), .ref b] (ov TM 8 b M m)) = some (.inl none, ov TM 8 b M m) := by
  split
  · rw [q227_3, r227_b4 B]
  · rw [r227_b4 B]
theorem r227_b7 {k tm bg j : Int32} {z : dErr} (B : BAD T M z) (t : Nat) : runL e (dN e (d + 6)) 227 (t + 5) 7 [some (.ref b), some (.int k), some (.int tm), some (.int bg), some (.int j)] [] (ov TM 8 b M m) = some (.inl none, ov TM 8 b M m) := by
  rw [q227_7, M_g0_14]
  (try simp only [bd_s])
  split
  · rw [q227_8, q227_9, b209 (d := d + 4) B.ne, kV_r, r227_b5 B]
  · rw [q227_9, b209 (d := d + 4) B.ne, kV_r, r227_b5 B]
/-- the turns of a repeat -/
theorem r227_l (he : e.1 ≤ b) {f : pSt → pRs} {k bb tm : Nat} (hb : bb < tN T) (hb0 : 1 ≤ bb) (hb1 : bb + 1 < tN T) (htm : tm ≤ 9) (hf : ∀ st, GE st.1 (f st)) (H : ∀ (M : bX) (c y : Nat) (s h : sV), RS T M c s h y → rlR T b m M (dN e (D + 6) 228 [.ref b, .int (Int32.ofNat (k + 1))] (ov TM 8 b M m)) (f (c, s, h, y))) : ∀ (n j : Nat) (M : bX) (c y : Nat) (s h : sV) (t : Nat), j + n = tm → 700 * n + 10 ≤ t → RS T M c s h y → rlR T b m M (runL e (dN e (D + 6)) 227 t 5 [some (.ref b), some (.int (Int32.ofNat k)), some (.int (Int32.ofNat tm)), some (.int (Int32.ofNat (ee T bb))), some (.int (Int32.ofNat j))] [] (ov TM 8 b M m)) (repP T f n bb (c, s, h, y)) := by
  intro n
  induction n with
  | zero =>
    intro j M c y s h t hj ht Z
    obtain ⟨u, rfl⟩ : ∃ u, t = u + 2 := ⟨t - 2, by omega⟩
    obtain ⟨M1, g1, Z1, E1⟩ := m210 (e := e) (d := D + 3) (m := m) he Z.1
    have Z2 := Z.e E1 Z1
    rw [q227_5, M_g0_16, Z.1.2.2]
    (try simp only [bd_s])
    rw [if_pos (by trivial), if_neg (by rw [nLt (by omega) (by omega)]; omega), q227_10, g1, kV_r]
    exact ⟨M1, rfl, Z1, Z2.2.1, Z2.2.2.2.1, Z2.2.2.1, Z2.2.2.2.2.1, Z2.2.2.2.2.2.1, Z2.2.2.2.2.2.2, E1.f⟩
  | succ n ih =>
    intro j M c y s h t hj ht Z
    obtain ⟨u, rfl⟩ : ∃ u, t = u + 1 := ⟨t - 1, by omega⟩
    have hT := Z.1.1.1
    have n1 : nx T bb = bb + 1 := if_pos hb1
    have hN : tN T ≤ 601 := by
      have h1 := hT.1.2.1
      have h2 := hT.1.2.2.1
      omega
    have ES : mE M (sF M 12 (Int32.ofNat (ee T bb))) := mE_sF (by omega) (by omega)
    obtain ⟨M1, g1, R1, E1, b1⟩ := m207 (e := e) (d := D + 4) (m := m) he (Z.1.1.e ES) (nx_lt hb) (GO_nx hT hb) sF_s
    have E1' := ES.tr E1
    have Z1 : RS T M1 (nx T bb) s h y := Z.e E1' ⟨Z.1.1.e E1', R1, by rw [b1, sF_n (by omega)]; exact Z.1.2.2⟩
    have L := H M1 (nx T bb) y s h Z1
    have hp := hf (nx T bb, s, h, y)
    rw [q227_5, M_g0_16, Z.1.2.2]
    (try simp only [bd_s])
    rw [if_pos (by trivial), if_pos (by rw [nLt (by omega) (by omega)]; omega), M_F12 he]
    (try simp only [bd_s])
    rw [g1, kV_r, nAdd]
    have e0 : repP T f (n + 1) bb (c, s, h, y) = pBn (pBn (f (nx T bb, s, h, y)) fun st' => bif decide (kd T (nx T st'.1) = 59) then lnsP T f 599 (nx T st'.1, st'.2) else .inr (nx T st'.1, st'.2)) fun st' => pC (decide (kd T st'.1 = 41)) 1 st'.1 (repP T f n bb st') := rfl
    rw [e0]
    cases hr : f (nx T bb, s, h, y) with
    | inl z =>
      rw [hr] at L
      obtain ⟨M2, g2, B2, F2⟩ := L
      obtain ⟨w, rfl⟩ : ∃ w, u = w + 6 := ⟨u - 6, by omega⟩
      rw [g2, kV_r, q227_6, M_g0_16]
      (try simp only [bd_s])
      rw [if_neg B2.ne, r227_b7 B2]
      exact ⟨M2, rfl, B2, E1'.f.tr F2⟩
    | inr st =>
      have hp2 := hp st hr
      rw [hr] at L
      obtain ⟨c2, s2, h2, y2⟩ := st
      obtain ⟨M2, g2, R2, f2, i2, j2, W2, H2, y22, F2⟩ := L
      have n2 : c2 ≤ nx T c2 := nx_ge
      have hp3 : nx T bb ≤ c2 := hp2
      have F12 := E1'.f.tr F2
      have Q := lnG (D := D + 4) (T := T) (m := m) (lo := 700 * n + 20) he (k := Int32.ofNat (k + 1)) (f := f) (G := fun t m => runL e (dN e (D + 6)) 227 t 6 [some (.ref b), some (.int (Int32.ofNat k)), some (.int (Int32.ofNat tm)), some (.int (Int32.ofNat (ee T bb))), some (.int (Int32.ofNat j))] [] m) (E := fun t m => runL e (dN e (D + 6)) 227 t 7 [some (.ref b), some (.int (Int32.ofNat k)), some (.int (Int32.ofNat tm)), some (.int (Int32.ofNat (ee T bb))), some (.int (Int32.ofNat j))] [] m) (fun t m => by
        show runL e (dN e (D + 6)) 227 (t + 1) 6 _ [] m = _
        rw [q227_6, nAdd]) hf H 599 M2 (nx T c2) y2 s2 h2 u (by omega) (by omega) ⟨R2, f2, j2, i2, W2, H2, y22⟩
      have Q' := lgR_seq Q F12
      rw [g2, kV_r, pB_r]
      generalize hX : (bif decide (kd T (nx T c2) = 59) then lnsP T f 599 (nx T c2, s2, h2, y2) else .inr (nx T c2, s2, h2, y2) : pRs) = X at Q'
      cases X with
      | inl z =>
        obtain ⟨M3, w, hw, g3, B3, F3⟩ := Q'
        obtain ⟨v, rfl⟩ : ∃ v, w = v + 5 := ⟨w - 5, by omega⟩
        have g3' : runL e (dN e (D + 6)) 227 u 6 [some (.ref b), some (.int (Int32.ofNat k)), some (.int (Int32.ofNat tm)), some (.int (Int32.ofNat (ee T bb))), some (.int (Int32.ofNat j))] [] (ov TM 8 b M2 m) = _ := g3
        rw [g3']
        exact ⟨M3, r227_b7 B3 v, B3, F3⟩
      | inr st =>
        obtain ⟨c3, s3, h3, y3⟩ := st
        obtain ⟨M3, w, hw, g3, Z3, F3⟩ := Q'
        have Z3' : RS T M3 c3 s3 h3 y3 := Z3
        have hl3 := Z3'.1.2.1.2.2.2.2
        obtain ⟨v, rfl⟩ : ∃ v, w = v + 5 := ⟨w - 5, by omega⟩
        have g3' : runL e (dN e (D + 6)) 227 u 6 [some (.ref b), some (.int (Int32.ofNat k)), some (.int (Int32.ofNat tm)), some (.int (Int32.ofNat (ee T bb))), some (.int (Int32.ofNat j))] [] (ov TM 8 b M2 m) = runL e (dN e (D + 6)) 227 (v + 5) 7 [some (.ref b), some (.int (Int32.ofNat k)), some (.int (Int32.ofNat tm)), some (.int (Int32.ofNat (ee T bb))), some (.int (Int32.ofNat j))] [] (ov TM 8 b M3 m) := g3
        rw [g3', q227_7, M_g0_14, Z3'.1.2.1.2.2.1, pB_r]
        (try simp only [bd_s])
        show rlR T b m M _ (pC (decide (kd T c3 = 41)) 1 c3 (repP T f n bb (c3, s3, h3, y3)))
        by_cases q : kd T c3 = 41
        · rw [if_pos (by rw [srt_k hT hl3 (k := 41) (by omega)]; exact q), q227_8, q227_9, m209_0 (d := D + 4), kV_r, nAdd, decide_eq_true q, pC_t]
          have I := ih (j + 1) M3 c3 y3 s3 h3 (v + 2) (by omega) (by omega) Z3'
          exact rlR_seq I F3
        · have B4 := flM_B Z3'.1 (k := 1) (by omega) (by omega)
          rw [if_neg (by rw [srt_k hT hl3 (k := 41) (by omega)]; exact q), q227_9, m209_1 (d := D + 4) he Z3'.1.2.2, kV_r, r227_b5 B4, decide_eq_false q]
          exact ⟨_, rfl, B4, F3.tr flM_E.f⟩
/-- a repeat -/
theorem r227 (he : e.1 ≤ b) {f : pSt → pRs} {k : Nat} (hk : k < 2) (hf : ∀ st, GE st.1 (f st)) (H : ∀ (M : bX) (c y : Nat) (s h : sV), RS T M c s h y → rlR T b m M (dN e (D + 6) 228 [.ref b, .int (Int32.ofNat (k + 1))] (ov TM 8 b M m)) (f (c, s, h, y))) (Z : RS T M c s h y) : rlR T b m M (dN e (D + 7) 227 [.ref b, .int (Int32.ofNat k)] (ov TM 8 b M m)) (pRep T (repP T f) true (c, s, h, y)) := by
  have hT := Z.1.1.1
  have hl := Z.1.2.1.2.2.2.2
  have hl1 := nx_lt hl
  have hl2 := nx_lt hl1
  rw [dN_at (j := 227) (as := [.ref b, .int (Int32.ofNat k)]) (m := ov TM 8 b M m) (ls := [some (.ref b), some (.int (Int32.ofNat k)), none, none, none]) M_c0 rfl rfl rfl, dFu, pRep_e]
  obtain ⟨M1, g1, Z1, E1⟩ := m210 (e := e) (d := D + 3) (m := m) he Z.1
  have L := m213n (e := e) (d := D + 2) (m := m) he Z1 (lo := 1) (hi := 9) (by omega) (by omega)
  rw [q227_0, if_neg (by rw [nEq (by omega) (by omega)]; omega), q227_1, q227_2, m209_0 (d := D + 4), kV_r, g1, kV_r, pC_t]
  cases hr : pNum T (nx T c) 1 9 with
  | inl z =>
    rw [show ((9 : Nat) : Int) = 9 from rfl, hr] at L
    obtain ⟨M2, g2, B2, E2⟩ := L
    rw [g2, kI_r, M_g0_14]
    (try simp only [bd_s])
    rw [r227_b3 B2]
    exact ⟨M2, rfl, B2, E1.f.tr E2.f⟩
  | inr tm =>
    obtain ⟨-, -, t1, t2⟩ := pNum_r hr
    rw [show ((9 : Nat) : Int) = 9 from rfl, hr] at L
    obtain ⟨M2, g2, Z2, E2⟩ := L
    have E12 := E1.tr E2
    have ZS : RS T M2 (nx T (nx T c)) s h y := Z.e E12 Z2
    rw [g2, kI_r, M_g0_14, Z2.2.1.2.2.1, pB_r]
    (try simp only [bd_s])
    by_cases q : kd T (nx T (nx T c)) = 40
    · have hb1 : nx T (nx T c) + 1 < tN T := hT.lt hl2 (by
        intro z
        unfold kd at q
        split at q <;> omega)
      have hb0 : 1 ≤ nx T (nx T c) := by
        have h1 : c ≤ nx T c := nx_ge
        have h2 : nx T c ≤ nx T (nx T c) := nx_ge
        rcases Nat.eq_zero_or_pos (nx T (nx T c)) with w | w
        · have w1 : nx T c = 0 := by omega
          rw [w1] at hb1 w
          have : nx T 0 = 1 := if_pos (by omega)
          omega
        · exact w
      rw [if_pos (by rw [srt_k hT hl2 (k := 40) (by omega)]; exact q), q227_3, q227_4, m209_0 (d := D + 4), kV_r, M_g0_12, Z2.2.1.1, decide_eq_true q, pC_t]
      (try simp only [bd_s])
      exact rlR_seq (r227_l (D := D) (tm := tm) he hl2 hb0 hb1 (by omega) hf H tm 0 M2 (nx T (nx T c)) y s h _ (by omega) (by omega) ZS) E12.f
    · have B4 := flM_B Z2 (k := 1) (by omega) (by omega)
      rw [if_neg (by rw [srt_k hT hl2 (k := 40) (by omega)]; exact q), q227_4, m209_1 (d := D + 4) he Z2.2.2, kV_r, M_g0_12, decide_eq_false q]
      (try simp only [bd_s])
      rw [r227_b5 B4]
      exact ⟨_, rfl, B4, E12.f.tr flM_E.f⟩
theorem r227_0 (he : e.1 ≤ b) {rp : Nat → Nat → pSt → pRs} (Z : RS T M c s h y) : rlR T b m M (dN e (d + 7) 227 [.ref b, .int (Int32.ofNat 2)] (ov TM 8 b M m)) (pRep T rp false (c, s, h, y)) := by
  have B4 := flM_B Z.1 (k := 4) (by omega) (by omega)
  rw [dN_at (j := 227) (as := [.ref b, .int (Int32.ofNat 2)]) (m := ov TM 8 b M m) (ls := [some (.ref b), some (.int (Int32.ofNat 2)), none, none, none]) M_c0 rfl rfl rfl, dFu, pRep_e]
  rw [q227_0, if_pos (by trivial), q227_2, m209_1 (d := d + 4) he Z.1.2.2, kV_r, b210 (d := d + 3) B4.ne, kV_r, b213 (d := d + 2) B4.ne, kI_r, M_g0_14]
  (try simp only [bd_s])
  rw [r227_b3 B4]
  exact ⟨_, rfl, B4, flM_E.f⟩
theorem rlR_kV {run : Option dRes} {r : pRs} (L : rlR T b m M run r) {k : dMem → Option dRes} (hk : ∀ m', k m' = some (.inl none, m')) : rlR T b m M (kV run dPass k) r := by
  cases r with
  | inl z =>
    obtain ⟨M', h1, h2⟩ := L
    exact ⟨M', by rw [h1, kV_r, hk], h2⟩
  | inr st =>
    obtain ⟨M', h1, h2⟩ := L
    exact ⟨M', by rw [h1, kV_r, hk], h2⟩
/-- a line -/
theorem r228 (he : e.1 ≤ b) (Z : RS T M c s h y) (S : hSt e x m) (hx : x ≤ b) {rp : Nat → Nat → pSt → pRs} {dp : Bool} {k : Nat} (H : rlR T b m M (dN e (d + 7) 227 [.ref b, .int (Int32.ofNat k)] (ov TM 8 b M m)) (pRep T rp dp (c, s, h, y))) : rlR T b m M (dN e (d + 8) 228 [.ref b, .int (Int32.ofNat k)] (ov TM 8 b M m)) (lineP T rp dp (c, s, h, y)) := by
  have w : ∀ k, k < 30 → dN e (d + 7) 211 [.ref b, .ref (e.2 k)] (ov TM 8 b M m) = rI (bI (isW T c (wd k))) (ov TM 8 b M m) := fun k hk => m211 (d := d + 4) Z.1 S hx hk
  obtain ⟨Z0, h19, h1, h2, W, WHh, hy⟩ := Z
  rw [dN_at (j := 228) (as := [.ref b, .int (Int32.ofNat k)]) (m := ov TM 8 b M m) (ls := [some (.ref b), some (.int (Int32.ofNat k)), none]) M_c0 rfl rfl rfl, dFu]
  unfold lineP
  rw [show (c, s, h, y).1 = c from rfl]
  rw [q228_0, w 17 (by omega), kI_r, show wd 17 = wd 1 from rfl]
  by_cases z0 : isW T c (wd 1) = true
  · rw [z0, if_neg (by decide +kernel)]
    (try rw [if_pos rfl])
    exact rlR_kV (r216 (d := d + 1) he Z0 h19 h1 h2 W WHh hy S hx) (fun m' => rfl)
  have y0 : isW T c (wd 1) = false := by
    cases g : isW T c (wd 1) with
    | false => rfl
    | true => exact absurd g z0
  rw [y0, if_pos (by decide +kernel)]
  (try rw [if_neg Bool.false_ne_true])
  rw [q228_1, w 18 (by omega), kI_r, show wd 18 = wd 2 from rfl]
  by_cases z1 : isW T c (wd 2) = true
  · rw [z1, if_neg (by decide +kernel)]
    (try rw [if_pos rfl])
    exact rlR_kV (r218 (d := d) he Z0 h19 h1 h2 W WHh hy S hx) (fun m' => rfl)
  have y1 : isW T c (wd 2) = false := by
    cases g : isW T c (wd 2) with
    | false => rfl
    | true => exact absurd g z1
  rw [y1, if_pos (by decide +kernel)]
  (try rw [if_neg Bool.false_ne_true])
  rw [q228_2, w 19 (by omega), kI_r, show wd 19 = wd 3 from rfl]
  by_cases z2 : isW T c (wd 3) = true
  · rw [z2, if_neg (by decide +kernel)]
    (try rw [if_pos rfl])
    exact rlR_kV (r219 (d := d + 1) he Z0 h19 h1 h2 W WHh hy) (fun m' => rfl)
  have y2 : isW T c (wd 3) = false := by
    cases g : isW T c (wd 3) with
    | false => rfl
    | true => exact absurd g z2
  rw [y2, if_pos (by decide +kernel)]
  (try rw [if_neg Bool.false_ne_true])
  rw [q228_3, w 20 (by omega), kI_r, show wd 20 = wd 4 from rfl]
  by_cases z3 : isW T c (wd 4) = true
  · rw [z3, if_neg (by decide +kernel)]
    (try rw [if_pos rfl])
    exact rlR_kV (r221 (d := d + 1) he Z0 h19 h1 h2 W WHh hy) (fun m' => rfl)
  have y3 : isW T c (wd 4) = false := by
    cases g : isW T c (wd 4) with
    | false => rfl
    | true => exact absurd g z3
  rw [y3, if_pos (by decide +kernel)]
  (try rw [if_neg Bool.false_ne_true])
  rw [q228_4, w 21 (by omega), kI_r, show wd 21 = wd 5 from rfl]
  by_cases z4 : isW T c (wd 5) = true
  · rw [z4, if_neg (by decide +kernel)]
    (try rw [if_pos rfl])
    exact rlR_kV (r222 (d := d + 1) he Z0 h19 h1 h2 W WHh hy) (fun m' => rfl)
  have y4 : isW T c (wd 5) = false := by
    cases g : isW T c (wd 5) with
    | false => rfl
    | true => exact absurd g z4
  rw [y4, if_pos (by decide +kernel)]
  (try rw [if_neg Bool.false_ne_true])
  rw [q228_5, w 22 (by omega), kI_r, show wd 22 = wd 6 from rfl]
  by_cases z5 : isW T c (wd 6) = true
  · rw [z5, if_neg (by decide +kernel)]
    (try rw [if_pos rfl])
    exact rlR_kV (r223 (d := d + 1) he Z0 h19 h1 h2 W WHh hy) (fun m' => rfl)
  have y5 : isW T c (wd 6) = false := by
    cases g : isW T c (wd 6) with
    | false => rfl
    | true => exact absurd g z5
  rw [y5, if_pos (by decide +kernel)]
  (try rw [if_neg Bool.false_ne_true])
  rw [q228_6, w 23 (by omega), kI_r, show wd 23 = wd 7 from rfl]
  by_cases z6 : isW T c (wd 7) = true
  · rw [z6, if_neg (by decide +kernel)]
    (try rw [if_pos rfl])
    exact rlR_kV (r224 (d := d) he Z0 h19 h1 h2 W WHh hy) (fun m' => rfl)
  have y6 : isW T c (wd 7) = false := by
    cases g : isW T c (wd 7) with
    | false => rfl
    | true => exact absurd g z6
  rw [y6, if_pos (by decide +kernel)]
  (try rw [if_neg Bool.false_ne_true])
  rw [q228_7, w 24 (by omega), kI_r, show wd 24 = wd 8 from rfl]
  by_cases z7 : isW T c (wd 8) = true
  · rw [z7, if_neg (by decide +kernel)]
    (try rw [if_pos rfl])
    have C := c_lists (e := e) (d := d + 1) (b := b) (m := m) (M := M) (Y := 2500 + y) he (by rw [h1, h2]; exact W)
    rw [h1, h2] at C
    obtain ⟨M', g, Z', E'⟩ := m210 (e := e) (d := d + 4) (m := m) he (Z0.k2 (g := listsS s h))
    rw [C, kV_r, g, kV_r, q228_13]
    exact ⟨M', rfl, Z', (E'.2 19 (by omega)).trans (by rw [uA_n (by omega)]; exact h19), (E'.1 2 (by omega)).trans (uA_s _ _ _), (E'.1 1 (by omega)).trans (by rw [uA_n (by omega)]; exact h1), WS_lists W, WHh, hy, mF_2.tr E'.f⟩
  have y7 : isW T c (wd 8) = false := by
    cases g : isW T c (wd 8) with
    | false => rfl
    | true => exact absurd g z7
  rw [y7, if_pos (by decide +kernel)]
  (try rw [if_neg Bool.false_ne_true])
  rw [q228_8, w 25 (by omega), kI_r, show wd 25 = wd 9 from rfl]
  by_cases z8 : isW T c (wd 9) = true
  · rw [z8, if_neg (by decide +kernel)]
    (try rw [if_pos rfl])
    exact rlR_kV (r225 (d := d + 1) he Z0 h19 h1 h2 W WHh hy) (fun m' => rfl)
  have y8 : isW T c (wd 9) = false := by
    cases g : isW T c (wd 9) with
    | false => rfl
    | true => exact absurd g z8
  rw [y8, if_pos (by decide +kernel)]
  (try rw [if_neg Bool.false_ne_true])
  rw [q228_9, w 26 (by omega), kI_r, show wd 26 = wd 10 from rfl]
  by_cases z9 : isW T c (wd 10) = true
  · rw [z9, if_neg (by decide +kernel)]
    (try rw [if_pos rfl])
    have C := c_appr (e := e) (d := d + 3) (b := b) (m := m) (M := M) (Y := 2500 + y) he (by rw [h1, h2]; exact W)
    rw [h1, h2] at C
    obtain ⟨M', g, Z', E'⟩ := m210 (e := e) (d := d + 4) (m := m) he (Z0.k2 (g := aprS s h))
    rw [C, kI_r, g, kV_r, q228_13]
    exact ⟨M', rfl, Z', (E'.2 19 (by omega)).trans (by rw [uA_n (by omega)]; exact h19), (E'.1 2 (by omega)).trans (uA_s _ _ _), (E'.1 1 (by omega)).trans (by rw [uA_n (by omega)]; exact h1), WS_aprS W, WHh, hy, mF_2.tr E'.f⟩
  have y9 : isW T c (wd 10) = false := by
    cases g : isW T c (wd 10) with
    | false => rfl
    | true => exact absurd g z9
  rw [y9, if_pos (by decide +kernel)]
  (try rw [if_neg Bool.false_ne_true])
  rw [q228_10, w 27 (by omega), kI_r, show wd 27 = wd 11 from rfl]
  by_cases z10 : isW T c (wd 11) = true
  · rw [z10, if_neg (by decide +kernel)]
    (try rw [if_pos rfl])
    exact rlR_kV (r226 (d := d) he Z0 h19 h1 h2 W WHh hy) (fun m' => rfl)
  have y10 : isW T c (wd 11) = false := by
    cases g : isW T c (wd 11) with
    | false => rfl
    | true => exact absurd g z10
  rw [y10, if_pos (by decide +kernel)]
  (try rw [if_neg Bool.false_ne_true])
  rw [q228_11, w 28 (by omega), kI_r, show wd 28 = wd 12 from rfl]
  cases z : isW T c (wd 12) with
  | true =>
    rw [if_neg (by decide +kernel), pC_t]
    exact rlR_kV H (fun m' => rfl)
  | false =>
    rw [if_pos (by decide +kernel), q228_12, m208 (d := d + 6) he Z0.2.2, kV_r, q228_13]
    exact ⟨_, rfl, flM_B Z0 (by omega) (by omega), flM_E.f⟩
/-- lines at every depth -/
theorem r228_all (he : e.1 ≤ b) (S : hSt e x m) (hx : x ≤ b) (d : Nat) : ∀ r k : Nat, k + r = 2 → ∀ (M : bX) (c y : Nat) (s h : sV), RS T M c s h y → rlR T b m M (dN e (d + 2 * r + 8) 228 [.ref b, .int (Int32.ofNat k)] (ov TM 8 b M m)) (lineX T r (c, s, h, y)) := by
  intro r
  induction r with
  | zero =>
    intro k hk M c y s h Z
    have k2 : k = 2 := by omega
    subst k2
    exact r228 (d := d) he Z S hx (r227_0 he Z)
  | succ r ih =>
    intro k hk M c y s h Z
    exact r228 (d := d + 2 * r + 2) he Z S hx (r227 (D := d + 2 * r + 2) he (by omega) (GE_X r) (ih (k + 1) (by omega)) Z)
end
end

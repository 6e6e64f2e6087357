/-! ===== the class's texts (printed by wip/whole/tx3.py) ===== -/
noncomputable section
theorem c16 {v : Nat} (hv : v < 128) : ((Int32.ofNat v).toUInt32 % 65536).toInt32 = Int32.ofNat v := by
  revert hv
  revert v
  decide +kernel
theorem nmK_0 {h : sV} {p n i : Nat} (W : WN h p) (hi : i + n ≤ 6) (hz : h (p + i) = Int32.ofNat 0) : nmK h p n i = [] := by
  cases n with
  | zero => rfl
  | succ n => exact if_pos hz
section
variable {e : dEnv} {d x C S0 Y : Nat} {bb : xB} {R A : bX} {h s : sV} {l : List Nat} {m : dMem}
theorem fXB {T : bTab} {n q : Nat} {X : bX} {m2 : dMem} (Z : hB T n q X m) (F : frX (x + 259) bb m m2) (h1 : q + n ≤ x + 259) (h2 : ∀ q, q < x + 259 → bb.1 q) : hB T n q X m2 := hB_mem Z (fun i hi => F (q + i) (h2 _ (by omega)))
theorem hXb (Z : hX (x + 259) bb C S0 l m) : ∀ q, q < x + 259 → bb.1 q := by
  obtain ⟨p, g, w, z1, z2, z3, z4, z5, z6, z7⟩ := Z
  exact z6
theorem hDx {m2 : dMem} (D : hDig e x m) (F : frX (x + 259) bb m m2) (h2 : ∀ q, q < x + 259 → bb.1 q) : hDig e x m2 := D.fr (fun q hq => F q (h2 q (by omega)))
theorem a159 {p : Nat} (W : WN h p) (he : e.1 ≤ x) : ∀ (n i : Nat) (m : dMem) (l : List Nat), i + n = 6 → hB TR 1 x R m → hX (x + 259) bb C S0 l m → l.length + n ≤ 280 → ∃ m2, (∀ t, 2 * n + 2 ≤ t → runL e (dN e (d + 5)) 159 t 1 [some (.ref x), some (.long (pkN h p)), none, some (.int (Int32.ofNat i)), none] [] m = some (.inl none, m2)) ∧ hX (x + 259) bb C S0 (l ++ nmK h p n i) m2 ∧ frX (x + 259) bb m m2 := by
  intro n
  induction n with
  | zero =>
    intro i m l hi hR Z hl
    have e0 : l ++ nmK h p 0 i = l := List.append_nil l
    rw [e0]
    refine ⟨m, fun t ht => ?_, Z, frX.rf⟩
    obtain ⟨u, rfl⟩ : ∃ u, t = u + 2 := ⟨t - 2, by omega⟩
    rw [q159_1, if_neg (by rw [nLt (by omega) (by omega)]; omega), q159_3]
  | succ n ih =>
    intro i m l hi hR Z hl
    have g1 := n161 (e := e) (d := d + 4) (m := m) (y := Int32.ofNat i) W
    have hr : rngB 0 5 (Int32.ofNat i) = true := rng_k (n := 6) (by omega) (by omega)
    have hbb := hXb Z
    have gl : letS h p (Int32.ofNat i) = if h (p + i) = Int32.ofNat 0 then nM1 else h (p + i) := by
      unfold letS
      rw [hr, nN_o (by omega)]
      rfl
    rw [gl] at g1
    by_cases q : h (p + i) = Int32.ofNat 0
    · rw [if_pos q] at g1
      have e1 : nmK h p (n + 1) i = [] := nmK_0 W (by omega) q
      have e2 : nmK h p n (i + 1) = [] := by
        cases n with
        | zero => rfl
        | succ n => exact nmK_0 W (by omega) (W.2.2 i (by omega) q)
      obtain ⟨m2, g2, Z2, F2⟩ := ih (i + 1) m l (by omega) hR Z (by omega)
      rw [e2] at Z2
      rw [e1]
      refine ⟨m2, fun t ht => ?_, Z2, F2⟩
      obtain ⟨u, rfl⟩ : ∃ u, t = u + 2 := ⟨t - 2, by omega⟩
      rw [q159_1, if_pos (by rw [nLt (by omega) (by omega)]; omega), g1, kI_r, if_pos rfl, q159_2, nAdd, g2 u (by omega)]
    · rw [if_neg q] at g1
      obtain ⟨v, v1, v2, -, v4⟩ := (W.1 i (by omega)).ex
      rw [v1] at g1
      obtain ⟨m1, g3, Z3, F3⟩ := x367 (e := e) (d := d) Z (v := v) (by omega) (by omega) (by omega)
      have l1 : (l ++ [v]).length = l.length + 1 := by rw [List.length_append]; rfl
      obtain ⟨m2, g2, Z2, F2⟩ := ih (i + 1) m1 (l ++ [v]) (by omega) (fXB hR F3 (by omega) hbb) Z3 (by omega)
      have e0 : l ++ nmK h p (n + 1) i = l ++ [v] ++ nmK h p n (i + 1) := by
        show l ++ (if h (p + i) = Int32.ofNat 0 then [] else nN (h (p + i)) :: nmK h p n (i + 1)) = _
        rw [if_neg q, v2, List.append_assoc]
        rfl
      rw [e0]
      refine ⟨m2, fun t ht => ?_, Z2, F3.tr F2⟩
      obtain ⟨u, rfl⟩ : ∃ u, t = u + 2 := ⟨t - 2, by omega⟩
      rw [q159_1, if_pos (by rw [nLt (by omega) (by omega)]; omega), g1, kI_r, if_neg (by rw [nEqM (by omega)]; exact id), hR_r0_5 hR]
      simp only [bd_s]
      rw [c16 (by omega), g3, kR_r, q159_2, nAdd, g2 u (by omega)]
theorem a135_1 (hR : hB TR 1 x R m) (hA : hB TA 19 (x + 26) A m) (hl : R.1 0 6 = Int32.ofNat 0) {y : Int32} : dN e (d + 8) 135 [.ref x, .int y] m = dTh 1 m := by
  refine en135 (hR_c0 hR) fun t ht => ?_
  obtain ⟨u, rfl⟩ := fu 9 ht rfl
  rw [q135_0, n154_1 (d := d + 5) hR hA hl, kV_th]
theorem a135_2 (hR : hB TR 1 x R m) (hA : hB TA 19 (x + 26) A m) (hl : R.1 0 6 = Int32.ofNat 1) (W : OKA Y A h s) {y : Int32} {n : Nat} (hn : s 1 = Int32.ofNat n) (hm : n ≤ 24) (hx : rngB 0 ((n : Int) - 1) y = false) : dN e (d + 8) 135 [.ref x, .int y] m = dTh 2 m := by
  refine en135 (hR_c0 hR) fun t ht => ?_
  obtain ⟨u, rfl⟩ := fu 9 ht rfl
  rw [q135_0, n154_2 (d := d + 5) hR hA hl W hn hm hx, kV_th]
/-- behind the mark -/
theorem a135_s (he : e.1 ≤ x) (hR : hB TR 1 x R m) (hA : hB TA 19 (x + 26) A m) (W : OKA Y A h s) {k : Nat} (hk : k < nbS s) (Z : hX (x + 259) bb C S0 l m) (hl : l.length ≤ 200) : ∃ m2, (∀ t, 30 ≤ t → runL e (dN e (d + 7)) 135 t 2 [some (.ref x), some (.int (Int32.ofNat k))] [] m = rI (Int32.ofNat ((l ++ [47]) ++ nmK h (46 + 6 * clN s k) 6 0).length) m2) ∧ hX (x + 259) bb C S0 ((l ++ [47]) ++ nmK h (46 + 6 * clN s k) 6 0) m2 ∧ frX (x + 259) bb m m2 := by
  have hbb := hXb Z
  obtain ⟨b1, b2, b3⟩ := W.box hk
  obtain ⟨c, c1, c2, -, c4⟩ := b2.1.ex
  have hc : clN s k = c := c2
  have hcl : clN s k < nN (h 2) := b2.2.1
  obtain ⟨-, -, -, hh⟩ := W.1.2.2.2.1.2.2.2.2.1 (clN s k) hcl
  have Wn : WN h (46 + 6 * clN s k) := (W.2.2.2.2.2.2.1 (clN s k) hcl).2.2.2
  rw [hc] at Wn hh ⊢
  obtain ⟨m1, g1, Z1, F1⟩ := x367 (e := e) (d := d + 2) Z (v := 47) (by omega) (by omega) (by omega)
  have l1 : (l ++ [47]).length = l.length + 1 := by rw [List.length_append]; rfl
  have hR1 := fXB hR F1 (by omega) hbb
  have hA1 := fXB hA F1 (by omega) hbb
  obtain ⟨m2, g2, Z2, F2⟩ := a159 (e := e) (d := d + 1) (bb := bb) (C := C) (S0 := S0) (R := R) (h := h) Wn he 6 0 m1 (l ++ [47]) rfl hR1 Z1 (by omega)
  have hR2 := fXB hR1 F2 (by omega) hbb
  have g3 : dN e (d + 7) 159 [.ref x, .long (pkN h (46 + 6 * c))] m1 = some (.inl none, m2) := by
    refine en159 (hR_c0 hR1) fun t ht => ?_
    obtain ⟨u, rfl⟩ := fu 20 ht rfl
    rw [q159_0, g2 _ (by omega)]
  have g4 := x370 (e := e) (d := d + 5) Z2
  refine ⟨m2, fun t ht => ?_, Z2, F1.tr F2⟩
  obtain ⟨u, rfl⟩ : ∃ u, t = u + 1 := ⟨t - 1, by omega⟩
  rw [q135_2, hR_r0_5 hR]
  simp only [bd_s]
  rw [g1, kR_r, hR_r0_1 hR1]
  simp only [bd_s]
  rw [hA_r0_0 hA1]
  simp only [bd_s]
  rw [hA_r1_0 hA1]
  simp only [bd_s]
  rw [hA_r0_2 hA1]
  simp only [bd_s]
  rw [hA_a9 hA1 b3, b1.1, c1]
  simp only [bd_s]
  rw [hA_a2 hA1 (by omega), hh]
  simp only [bd_s]
  rw [g3, kV_r, hR_r0_5 hR2]
  simp only [bd_s]
  rw [g4, kI_r]
theorem a135_0 (he : e.1 ≤ x) (hR : hB TR 1 x R m) (hA : hB TA 19 (x + 26) A m) (hl : R.1 0 6 = Int32.ofNat 1) (W : OKA Y A h s) {k n : Nat} (hn : s 1 = Int32.ofNat n) (hm : n ≤ 24) (hk : k < n) (D : hDig e x m) (Z : hX (x + 259) bb C S0 l m) : ∃ m2, dN e (d + 8) 135 [.ref x, .int (Int32.ofNat k)] m = rI (Int32.ofNat (mrkS s h k).length) m2 ∧ hX (x + 259) bb C S0 (mrkS s h k) m2 ∧ frX (x + 259) bb m m2 := by
  have hbb := hXb Z
  have hnb : nbS s = n := by unfold nbS; rw [hn, nN_o (by omega)]
  have hk' : k < nbS s := by omega
  obtain ⟨b1, b2, b3⟩ := W.box hk'
  obtain ⟨m1, g1, Z1, F1⟩ := x371 (e := e) (d := d + 2) Z (by omega)
  have hR1 := fXB hR F1 (by omega) hbb
  have hA1 := fXB hA F1 (by omega) hbb
  have D1 := hDx D F1 hbb
  have gg := k_dest (e := e) (a := x + 26) (d := d + 6) (m := m1) W.z hk'
  rw [ov_self hA1] at gg
  cases hg : gonB s k with
  | true =>
    rw [hg] at gg
    obtain ⟨m2, g2, Z2, F2⟩ := x367 (e := e) (d := d + 2) Z1 (v := 45) (by decide) (by omega) (by omega)
    obtain ⟨m3, g3, Z3, F3⟩ := a135_s (e := e) (d := d) he (fXB hR1 F2 (by omega) hbb) (fXB hA1 F2 (by omega) hbb) W hk' Z2 (by decide)
    have e0 : mrkS s h k = (([] ++ [45]) ++ [47]) ++ nmK h (46 + 6 * clN s k) 6 0 := by
      unfold mrkS
      rw [if_pos hg]
      rfl
    rw [e0]
    refine ⟨m3, ?_, Z3, (F1.tr F2).tr F3⟩
    refine en135 (hR_c0 hR) fun t ht => ?_
    obtain ⟨u, rfl⟩ := fu 50 ht rfl
    rw [q135_0, n154_0 (d := d + 5) hR hA hl W hn hm hk, kV_r, hR_r0_5 hR]
    simp only [bd_s]
    rw [g1, kV_r, hR_r0_1 hR1]
    simp only [bd_s]
    rw [gg, kI_r, if_neg (by decide +kernel), hR_r0_5 hR1]
    simp only [bd_s]
    rw [g2, kR_r, g3 _ (by omega)]
  | false =>
    rw [hg] at gg
    obtain ⟨q, q1, q2, q3, q4⟩ := b2.mk hg
    obtain ⟨P, p0, p1, p2, p3, p4⟩ := W.z.pl
    have qp : q % P < 8 := by have := Nat.mod_lt q (show 0 < P by omega); omega
    have qd : q / P ≤ 47 := Nat.le_trans (Nat.div_le_self q P) q3
    have s1 := k_shelf (e := e) (a := x + 26) (d := d + 6) (m := m1) W.z q3
    rw [ov_self hA1, p2] at s1
    obtain ⟨m2, g2, Z2, F2⟩ := x367 (e := e) (d := d + 2) Z1 (v := 65 + q / P) (by decide) (by omega) (by omega)
    have hR2 := fXB hR1 F2 (by omega) hbb
    have hA2 := fXB hA1 F2 (by omega) hbb
    have D2 := hDx D1 F2 hbb
    have s2 := k_place (e := e) (a := x + 26) (d := d + 6) (m := m2) W.z q3
    rw [ov_self hA2, p2] at s2
    have dq := dgN_b (v := q % P) (by omega)
    obtain ⟨m3, g3, Z3, F3⟩ := x368 (e := e) (d := d + 2) Z2 (v := q % P) (show 1 ≤ 280 by omega) (by omega) D2 (by omega) (by omega)
    have l3 : (([] : List Nat) ++ [65 + q / P] ++ dig (q % P)).length ≤ 200 := by
      rw [List.length_append, dig_n (by omega)]
      show 1 + dgN (q % P) ≤ 200
      omega
    obtain ⟨m4, g4, Z4, F4⟩ := a135_s (e := e) (d := d) he (fXB hR2 F3 (by omega) hbb) (fXB hA2 F3 (by omega) hbb) W hk' Z3 l3
    have e0 : mrkS s h k = ((([] ++ [65 + q / P]) ++ dig (q % P)) ++ [47]) ++ nmK h (46 + 6 * clN s k) 6 0 := by
      unfold mrkS
      rw [if_neg (by rw [hg]; exact Bool.false_ne_true), q2, p2]
      rfl
    rw [e0]
    refine ⟨m4, ?_, Z4, ((F1.tr F2).tr F3).tr F4⟩
    refine en135 (hR_c0 hR) fun t ht => ?_
    obtain ⟨u, rfl⟩ := fu 50 ht rfl
    rw [q135_0, n154_0 (d := d + 5) hR hA hl W hn hm hk, kV_r, hR_r0_5 hR]
    simp only [bd_s]
    rw [g1, kV_r, hR_r0_1 hR1]
    simp only [bd_s]
    rw [gg, kI_r, if_pos (by decide +kernel), q135_1, hR_r0_5 hR1]
    simp only [bd_s]
    rw [hR_r0_1 hR1]
    simp only [bd_s]
    rw [hA_r0_5 hA1]
    simp only [bd_s]
    rw [hA_a12 hA1 b3, b1.2.2.2.1, q1]
    simp only [bd_s]
    rw [s1, kI_r, nAdd, c16 (by omega), g2, kR_r, hR_r0_5 hR2]
    simp only [bd_s]
    rw [hR_r0_1 hR2]
    simp only [bd_s]
    rw [hA_r0_5 hA2]
    simp only [bd_s]
    rw [hA_a12 hA2 b3, b1.2.2.2.1, q1]
    simp only [bd_s]
    rw [s2, kI_r, g3, kR_r, g4 _ (by omega)]
theorem a136_1 (hR : hB TR 1 x R m) (hA : hB TA 19 (x + 26) A m) (hl : R.1 0 6 = Int32.ofNat 0) {y : Int32} : dN e (d + 8) 136 [.ref x, .int y] m = dTh 1 m := by
  refine en136 (hR_c0 hR) fun t ht => ?_
  obtain ⟨u, rfl⟩ := fu 9 ht rfl
  rw [q136_0, n152_1 (d := d + 6) hR hA hl, kV_th]
theorem a136_2 (hR : hB TR 1 x R m) (hA : hB TA 19 (x + 26) A m) (hl : R.1 0 6 = Int32.ofNat 1) (W : OKA Y A h s) {y : Int32} (hx : rngB 0 ((nN (h 0) : Int) - 1) y = false) : dN e (d + 8) 136 [.ref x, .int y] m = dTh 2 m := by
  refine en136 (hR_c0 hR) fun t ht => ?_
  obtain ⟨u, rfl⟩ := fu 9 ht rfl
  rw [q136_0, n152_0 (d := d + 6) hR hA hl, kV_r, n156_2 (d := d + 6) hR hA W (by rw [hx]; rfl), kV_th]
theorem a136_l (he : e.1 ≤ x) (W : OKA Y A h s) {i P : Nat} (hP : nN (h 1) = P) (hP0 : A.1 0 16 = Int32.ofNat P) (hP8 : P ≤ 8) : ∀ (n q : Nat) (m : dMem), q + n = P → hB TR 1 x R m → hB TA 19 (x + 26) A m → hX (x + 259) bb C S0 (rowK s h i q) m → ∃ m2, (∀ t, n + 3 ≤ t → runL e (dN e (d + 7)) 136 t 1 [some (.ref x), some (.int (Int32.ofNat i)), some (.int (Int32.ofNat q))] [] m = rI (Int32.ofNat (rowK s h i P).length) m2) ∧ hX (x + 259) bb C S0 (rowK s h i P) m2 ∧ frX (x + 259) bb m m2 := by
  intro n
  induction n with
  | zero =>
    intro q m hq hR hA Z
    have hq' : q = P := by omega
    rw [hq'] at Z ⊢
    have g4 := x370 (e := e) (d := d + 5) Z
    refine ⟨m, fun t ht => ?_, Z, frX.rf⟩
    obtain ⟨u, rfl⟩ : ∃ u, t = u + 2 := ⟨t - 2, by omega⟩
    rw [q136_1, hR_r0_1 hR]
    simp only [bd_s]
    rw [hA_g0_16 hA, hP0]
    simp only [bd_s]
    rw [if_neg (by rw [nLt (by omega) (by omega)]; omega), q136_2, hR_r0_5 hR]
    simp only [bd_s]
    rw [g4, kI_r]
  | succ n ih =>
    intro q m hq hR hA Z
    have hbb := hXb Z
    have sv := sgn_v (s := s) (h := h) (q := i * P + q)
    have lq := rowK_len (s := s) (h := h) (i := i) (q := q)
    have k1 := k_mark (e := e) (a := x + 26) (d := d + 6) (m := m) W.z (x := i) (y := q)
    have k2 := k_sign (e := e) (a := x + 26) (d := d + 4) (m := m) W.z (q := i * P + q)
    rw [ov_self hA, hP] at k1
    rw [ov_self hA] at k2
    obtain ⟨m1, g, Z1, F1⟩ := x367 (e := e) (d := d + 2) Z (v := nN (sgnS s h (i * P + q))) (by omega) sv.2 (by omega)
    have Z1' : hX (x + 259) bb C S0 (rowK s h i (q + 1)) m1 := by
      show hX (x + 259) bb C S0 (rowK s h i q ++ [nN (sgnS s h (i * nN (h 1) + q))]) m1
      rw [hP]
      exact Z1
    rw [← sv.1] at g
    obtain ⟨m2, g2, Z2, F2⟩ := ih (q + 1) m1 (by omega) (fXB hR F1 (by omega) hbb) (fXB hA F1 (by omega) hbb) Z1'
    refine ⟨m2, fun t ht => ?_, Z2, F1.tr F2⟩
    obtain ⟨u, rfl⟩ : ∃ u, t = u + 1 := ⟨t - 1, by omega⟩
    rw [q136_1, hR_r0_1 hR]
    simp only [bd_s]
    rw [hA_g0_16 hA, hP0]
    simp only [bd_s]
    rw [if_pos (by rw [nLt (by omega) (by omega)]; omega), hR_r0_5 hR]
    simp only [bd_s]
    rw [k1, kI_r, k2, kI_r, g, kR_r, nAdd, g2 u (by omega)]
theorem a136_0 (he : e.1 ≤ x) (hR : hB TR 1 x R m) (hA : hB TA 19 (x + 26) A m) (hl : R.1 0 6 = Int32.ofNat 1) (W : OKA Y A h s) {i : Nat} (hi : i < nN (h 0)) (Z : hX (x + 259) bb C S0 l m) : ∃ m2, dN e (d + 8) 136 [.ref x, .int (Int32.ofNat i)] m = rI (Int32.ofNat (rowS s h i).length) m2 ∧ hX (x + 259) bb C S0 (rowS s h i) m2 ∧ frX (x + 259) bb m m2 := by
  have hbb := hXb Z
  obtain ⟨P, p0, p1, p2, p3, p4⟩ := W.z.pl
  obtain ⟨m1, g1, Z1, F1⟩ := x371 (e := e) (d := d + 2) Z (by omega)
  obtain ⟨m2, g2, Z2, F2⟩ := a136_l (e := e) (d := d) (i := i) he W p2 p0 p4 P 0 m1 (by omega) (fXB hR F1 (by omega) hbb) (fXB hA F1 (by omega) hbb) Z1
  have n6 := n156_0 (e := e) (d := d + 6) hR hA W hi (j := 0) (by omega)
  unfold rowS
  rw [p2]
  refine ⟨m2, ?_, Z2, F1.tr F2⟩
  refine en136 (hR_c0 hR) fun t ht => ?_
  obtain ⟨u, rfl⟩ := fu 50 ht rfl
  rw [q136_0, n152_0 (d := d + 6) hR hA hl, kV_r, n6, kV_r, hR_r0_5 hR]
  simp only [bd_s]
  rw [g1, kV_r, g2 _ (by omega)]
theorem a137_1 (hR : hB TR 1 x R m) (hA : hB TA 19 (x + 26) A m) (hl : R.1 0 6 = Int32.ofNat 0) : dN e (d + 8) 137 [.ref x] m = dTh 1 m := by
  refine en137 (hR_c0 hR) fun t ht => ?_
  obtain ⟨u, rfl⟩ := fu 9 ht rfl
  rw [q137_0, n152_1 (d := d + 6) hR hA hl, kV_th]
theorem a137_l (hY : Y + 100 ≤ 1000000) (he : e.1 ≤ x) (W : OKA Y A h s) {N : Nat} (hN : s 2 = Int32.ofNat N) (hN24 : N ≤ 24) : ∀ (n q : Nat) (m : dMem), q + n = N → hB TR 1 x R m → hB TA 19 (x + 26) A m → hDig e x m → hX (x + 259) bb C S0 (lstK s h q) m → ∃ m2, (∀ t, 2 * n + 2 ≤ t → ∃ u, t ≤ u + 2 * n + 1 ∧ runL e (dN e (d + 7)) 137 t 1 [some (.ref x), some (.int (Int32.ofNat q)), none] [] m = runL e (dN e (d + 7)) 137 u 3 [some (.ref x), none, none] [] m2) ∧ hX (x + 259) bb C S0 (lstK s h N) m2 ∧ frX (x + 259) bb m m2 := by
  have hNn : nlS s = N := by unfold nlS; rw [hN, nN_o (by omega)]
  have h12 : A.1 0 12 = Int32.ofNat N := W.1.1.trans hN
  intro n
  induction n with
  | zero =>
    intro q m hq hR hA D Z
    have hq' : q = N := by omega
    rw [hq'] at Z ⊢
    refine ⟨m, fun t ht => ?_, Z, frX.rf⟩
    obtain ⟨u, rfl⟩ : ∃ u, t = u + 1 := ⟨t - 1, by omega⟩
    refine ⟨u, by omega, ?_⟩
    rw [q137_1, hR_r0_1 hR]
    simp only [bd_s]
    rw [hA_g0_12 hA, h12]
    simp only [bd_s]
    rw [if_neg (by rw [nLt (by omega) (by omega)]; omega)]
  | succ n ih =>
    intro q m hq hR hA D Z
    have hbb := hXb Z
    have lq := (lstK_len (s := s) (h := h) (q := q) hY W.2.1 W.2.2 (by omega)).1
    obtain ⟨w1, w2, w3⟩ := W.2.1.2.2.2.2.1 q (by omega)
    obtain ⟨k, k1, k2, -, k4⟩ := w1.ex
    have hkb : k < nbS s := by rw [← k2]; exact w2
    have dv := due_v (k := k) hY W.2.1 W.2.2 (p := q) (by omega) k1 (by omega)
    have l4 : dgN k ≤ 2 := by unfold dgN; (repeat' split) <;> omega
    have l3 := dig_n (v := k) (by omega)
    have l2 := dgN_b dv.2
    have l1 := dig_n dv.2
    have h18 : A.1 18 q = Int32.ofNat k := (W.1.2.2.2.2.2 q (by omega)).trans k1
    have sp : ∃ m1, (∀ u, runL e (dN e (d + 7)) 137 (u + 1) 1 [some (.ref x), some (.int (Int32.ofNat q)), none] [] m = runL e (dN e (d + 7)) 137 u 2 [some (.ref x), some (.int (Int32.ofNat q)), some (.int (Int32.ofNat k))] [] m1) ∧ hX (x + 259) bb C S0 (if 0 < q then lstK s h q ++ [32] else lstK s h q) m1 ∧ frX (x + 259) bb m m1 := by
      by_cases q0 : 0 < q
      · obtain ⟨m1, g, Z1, F1⟩ := x367 (e := e) (d := d + 2) Z (v := 32) (by omega) (by omega) (by omega)
        refine ⟨m1, fun u => ?_, by rw [if_pos q0]; exact Z1, F1⟩
        rw [q137_1, hR_r0_1 hR]
        simp only [bd_s]
        rw [hA_g0_12 hA, h12]
        simp only [bd_s]
        rw [if_pos (by rw [nLt (by omega) (by omega)]; omega)]
        simp only [hR_r0_1 hR, bd_s, hA_r0_11 hA, hA_a18 hA (show q < 24 by omega), h18]
        rw [if_pos (by rw [nLt (by omega) (by omega)]; exact q0), hR_r0_5 hR]
        simp only [bd_s]
        rw [g, kR_r]
      · refine ⟨m, fun u => ?_, by rw [if_neg q0]; exact Z, frX.rf⟩
        rw [q137_1, hR_r0_1 hR]
        simp only [bd_s]
        rw [hA_g0_12 hA, h12]
        simp only [bd_s]
        rw [if_pos (by rw [nLt (by omega) (by omega)]; omega)]
        simp only [hR_r0_1 hR, bd_s, hA_r0_11 hA, hA_a18 hA (show q < 24 by omega), h18]
        rw [if_neg (by rw [nLt (by omega) (by omega)]; exact q0)]
    obtain ⟨m1, g1, Z1, F1⟩ := sp
    have hR1 := fXB hR F1 (by omega) hbb
    have hA1 := fXB hA F1 (by omega) hbb
    have D1 := hDx D F1 hbb
    have ll : (if 0 < q then lstK s h q ++ [32] else lstK s h q).length ≤ 10 * q + 1 := by
      split
      · rw [List.length_append, show ([32] : List Nat).length = 1 from rfl]; omega
      · omega
    obtain ⟨m2, g2, Z2, F2⟩ := x368 (e := e) (d := d + 2) Z1 (v := k) (by omega) (by omega) D1 (by omega) (by omega)
    have hR2 := fXB hR1 F2 (by omega) hbb
    have hA2 := fXB hA1 F2 (by omega) hbb
    have D2 := hDx D1 F2 hbb
    have ll2 : ((if 0 < q then lstK s h q ++ [32] else lstK s h q) ++ dig k).length ≤ 10 * q + 3 := by rw [List.length_append]; omega
    obtain ⟨m3, g3, Z3, F3⟩ := x367 (e := e) (d := d + 2) Z2 (v := 58) (by omega) (by omega) (by omega)
    have hR3 := fXB hR2 F3 (by omega) hbb
    have hA3 := fXB hA2 F3 (by omega) hbb
    have D3 := hDx D2 F3 hbb
    have gd := k_due (e := e) (a := x + 26) (d := d + 6) (m := m3) W.z hkb
    rw [ov_self hA3, dv.1] at gd
    have ll3 : (((if 0 < q then lstK s h q ++ [32] else lstK s h q) ++ dig k) ++ [58]).length ≤ 10 * q + 4 := by rw [List.length_append, show ([58] : List Nat).length = 1 from rfl]; omega
    obtain ⟨m4, g4, Z4, F4⟩ := x368 (e := e) (d := d + 2) Z3 (v := nN (dueS s h k)) (by omega) dv.2 D3 (by omega) (by omega)
    have Z4' : hX (x + 259) bb C S0 (lstK s h (q + 1)) m4 := by
      show hX (x + 259) bb C S0 ((((if 0 < q then lstK s h q ++ [32] else lstK s h q) ++ dig (nN (s (3 + q)))) ++ [58]) ++ dig (nN (dueS s h (nN (s (3 + q)))))) m4
      rw [k2]
      exact Z4
    obtain ⟨m5, g5, Z5, F5⟩ := ih (q + 1) m4 (by omega) (fXB hR3 F4 (by omega) hbb) (fXB hA3 F4 (by omega) hbb) (hDx D3 F4 hbb) Z4'
    refine ⟨m5, fun t ht => ?_, Z5, (((F1.tr F2).tr F3).tr F4).tr F5⟩
    obtain ⟨u, rfl⟩ : ∃ u, t = u + 1 + 1 := ⟨t - 2, by omega⟩
    obtain ⟨u2, u3, g6⟩ := g5 u (by omega)
    refine ⟨u2, by omega, ?_⟩
    rw [g1, q137_2, hR_r0_5 hR1]
    simp only [bd_s]
    rw [g2, kR_r, hR_r0_5 hR2]
    simp only [bd_s]
    rw [g3, kR_r, hR_r0_5 hR3]
    simp only [bd_s]
    rw [hR_r0_1 hR3]
    simp only [bd_s]
    rw [gd, kI_r, g4, kR_r, nAdd, g6]
theorem a137_0 (hY : Y + 100 ≤ 1000000) (he : e.1 ≤ x) (hR : hB TR 1 x R m) (hA : hB TA 19 (x + 26) A m) (hl : R.1 0 6 = Int32.ofNat 1) (W : OKA Y A h s) (D : hDig e x m) (Z : hX (x + 259) bb C S0 l m) : ∃ m2, dN e (d + 8) 137 [.ref x] m = rI (Int32.ofNat (lstS s h).length) m2 ∧ hX (x + 259) bb C S0 (lstS s h) m2 ∧ frX (x + 259) bb m m2 := by
  have hbb := hXb Z
  obtain ⟨N, n1, n2, -, n4⟩ := W.2.1.2.1.ex
  have hNn : nlS s = N := n2
  obtain ⟨m1, g1, Z1, F1⟩ := x371 (e := e) (d := d + 2) Z (by omega)
  have hR1 := fXB hR F1 (by omega) hbb
  have hA1 := fXB hA F1 (by omega) hbb
  obtain ⟨m2, g2, Z2, F2⟩ := a137_l (e := e) (d := d) hY he W n1 n4 N 0 m1 (by omega) hR1 hA1 (hDx D F1 hbb) Z1
  have hR2 := fXB hR1 F2 (by omega) hbb
  have hA2 := fXB hA1 F2 (by omega) hbb
  have h12 : A.1 0 12 = Int32.ofNat N := W.1.1.trans n1
  unfold lstS
  rw [hNn]
  by_cases z : N = 0
  · rw [if_pos z]
    rw [z] at Z2
    obtain ⟨m3, g3, Z3, F3⟩ := x367 (e := e) (d := d + 2) Z2 (v := 45) (show 0 < 280 by omega) (by omega) (by omega)
    have hR3 := fXB hR2 F3 (by omega) hbb
    have g4 := x370 (e := e) (d := d + 5) Z3
    refine ⟨m3, ?_, Z3, (F1.tr F2).tr F3⟩
    refine en137 (hR_c0 hR) fun t ht => ?_
    obtain ⟨u, rfl⟩ := fu 100 ht rfl
    rw [q137_0, n152_0 (d := d + 6) hR hA hl, kV_r, hR_r0_5 hR]
    simp only [bd_s]
    rw [g1, kV_r]
    obtain ⟨u2, u3, g6⟩ := g2 (u + 99) (by omega)
    obtain ⟨u4, rfl⟩ : ∃ u4, u2 = u4 + 2 := ⟨u2 - 2, by omega⟩
    rw [g6, q137_3, hR_r0_1 hR2]
    simp only [bd_s]
    rw [hA_g0_12 hA2, h12]
    simp only [bd_s]
    rw [if_pos (by rw [z]), hR_r0_5 hR2]
    simp only [bd_s]
    rw [g3, kR_r, q137_4, hR_r0_5 hR3]
    simp only [bd_s]
    rw [g4, kI_r]
    rfl
  · rw [if_neg z]
    have g4 := x370 (e := e) (d := d + 5) Z2
    refine ⟨m2, ?_, Z2, F1.tr F2⟩
    refine en137 (hR_c0 hR) fun t ht => ?_
    obtain ⟨u, rfl⟩ := fu 100 ht rfl
    rw [q137_0, n152_0 (d := d + 6) hR hA hl, kV_r, hR_r0_5 hR]
    simp only [bd_s]
    rw [g1, kV_r]
    obtain ⟨u2, u3, g6⟩ := g2 (u + 99) (by omega)
    obtain ⟨u4, rfl⟩ : ∃ u4, u2 = u4 + 2 := ⟨u2 - 2, by omega⟩
    rw [g6, q137_3, hR_r0_1 hR2]
    simp only [bd_s]
    rw [hA_g0_12 hA2, h12]
    simp only [bd_s]
    rw [if_neg (by rw [nEq (by omega) (by omega)]; omega), q137_4, hR_r0_5 hR2]
    simp only [bd_s]
    rw [g4, kI_r]
theorem a138_1 (hR : hB TR 1 x R m) (Z : hX (x + 259) bb C S0 l m) (hl : l.length ≤ 300) {y : Int32} (hx : rngB 0 ((l.length : Int) - 1) y = false) : dN e (d + 3) 138 [.ref x, .int y] m = dTh 2 m := by
  have g4 := x370 (e := e) (d := d) Z
  refine en138 (hR_c0 hR) fun t ht => ?_
  obtain ⟨u, rfl⟩ := fu 9 ht rfl
  by_cases q : y < Int32.ofNat 0
  · rw [q138_0, if_pos q, q138_1]
  · have q2 : ¬ y < Int32.ofNat l.length := by
      rw [Int32.lt_iff_toInt_lt, nToI (by omega)] at q ⊢
      unfold rngB at hx
      intro w
      rw [decide_eq_true (by omega), Bool.true_and] at hx
      have := of_decide_eq_false hx
      omega
    rw [q138_0, if_neg q, hR_r0_5 hR]
    simp only [bd_s]
    rw [g4, kI_r, if_neg q2, q138_1]
theorem a138_0 (hR : hB TR 1 x R m) (Z : hX (x + 259) bb C S0 l m) (hl : l.length ≤ 300) {k : Nat} (hk : k < l.length) : dN e (d + 3) 138 [.ref x, .int (Int32.ofNat k)] m = rI (Int32.ofNat (l.getD k 0)) m := by
  have g4 := x370 (e := e) (d := d) Z
  have g5 := x369 (e := e) (d := d) Z hk
  refine en138 (hR_c0 hR) fun t ht => ?_
  obtain ⟨u, rfl⟩ := fu 9 ht rfl
  rw [q138_0, if_neg (by rw [nLt (by omega) (by omega)]; omega), hR_r0_5 hR]
  simp only [bd_s]
  rw [g4, kI_r, if_pos (by rw [nLt (by omega) (by omega)]; exact hk), q138_2, hR_r0_5 hR]
  simp only [bd_s]
  rw [g5, kI_r]
end
end

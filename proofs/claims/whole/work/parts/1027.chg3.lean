/-! ===== the changes on both sides ===== -/
noncomputable section
section
variable {e : dEnv} {x C S0 YB : Nat} {m0 m : dMem} {R I H S M : bX} {Ar : Nat → bX} {l : List Nat}
theorem pr52 (he : e.1 ≤ x) (Z : REL x m0 C S0 YB m R I H S Ar M l) {y1 : Int32} (hYB : YB ≤ 900000) : PAIR e x m0 C S0 YB 139 293 [.int y1] (ks2 1 3) m := by
  have hR : hB TR 1 x R m := Z.2.1.1
  have hA : hB TA 19 (x + 26) (Ar 0) m := Z.2.1.2.2.2.2 0 (by omega)
  rcases Z.2.2.2.2.2.2.2.2.2.2.1 with ⟨rl, ml, ub⟩ | ⟨rl, ml, Y, hY, W⟩
  · exact pair_e Z (E := 1) (r139_1 (d := 11) hR hA rl) (by decide) (by decide) (fun m' => m293_1 (d := 13) (by omega) ml)
  · obtain ⟨n, c, K, k5, hi⟩ := Z.2.2.2.2.2.2.2.2.2.2.2.1
    have c8 := K.2.2.2
    cases hx : rngB 1 50 y1 with
    | false => exact pair_e Z (E := 3) (r139_3 (d := 11) hR hA rl hx) (by decide) (by decide) (fun m' => m293_2 (d := 13) (by omega) ml hx)
    | true =>
      obtain ⟨k, rfl, k1, k2⟩ := rng_ab (a := 1) (b := 50) (by omega) hx
      obtain ⟨m1, g, G⟩ := b139_0 (d := 11) Z.2.1 K (by omega) rl W k1 k2 (by omega)
      exact pair_c Z K k5 hi rl ml hY W g G (by omega) (fun m' => m293_0 (d := 13) (by omega) ml c8 k5 W.2.1 k1 k2 (by omega))
theorem pr58 (he : e.1 ≤ x) (Z : REL x m0 C S0 YB m R I H S Ar M l) : PAIR e x m0 C S0 YB 145 299 [] (ks1 1) m := by
  have hR : hB TR 1 x R m := Z.2.1.1
  have hA : hB TA 19 (x + 26) (Ar 0) m := Z.2.1.2.2.2.2 0 (by omega)
  rcases Z.2.2.2.2.2.2.2.2.2.2.1 with ⟨rl, ml, ub⟩ | ⟨rl, ml, Y, hY, W⟩
  · exact pair_e Z (E := 1) (r145_1 (d := 11) hR hA rl) (by decide) (by decide) (fun m' => m299_1 (d := 13) (by omega) ml)
  · obtain ⟨n, c, K, k5, hi⟩ := Z.2.2.2.2.2.2.2.2.2.2.2.1
    obtain ⟨m1, g, G⟩ := b145_0 (d := 11) Z.2.1 K (by omega) rl W
    exact pair_c Z K k5 hi rl ml hY W g G (by omega) (fun m' => m299_0 (d := 13) (by omega) ml K.2.2.2 k5 W.2.1)
theorem pr60 (he : e.1 ≤ x) (Z : REL x m0 C S0 YB m R I H S Ar M l) : PAIR e x m0 C S0 YB 147 301 [] (ks1 1) m := by
  have hR : hB TR 1 x R m := Z.2.1.1
  have hA : hB TA 19 (x + 26) (Ar 0) m := Z.2.1.2.2.2.2 0 (by omega)
  rcases Z.2.2.2.2.2.2.2.2.2.2.1 with ⟨rl, ml, ub⟩ | ⟨rl, ml, Y, hY, W⟩
  · exact pair_e Z (E := 1) (r147_1 (d := 11) hR hA rl) (by decide) (by decide) (fun m' => m301_1 (d := 13) (by omega) ml)
  · obtain ⟨n, c, K, k5, hi⟩ := Z.2.2.2.2.2.2.2.2.2.2.2.1
    obtain ⟨m1, g, G⟩ := b147_0 (d := 11) Z.2.1 K (by omega) rl W
    exact pair_c Z K k5 hi rl ml hY W g G (by omega) (fun m' => m301_0 (d := 13) (by omega) ml K.2.2.2 k5 W.2.1)
theorem pr57 (he : e.1 ≤ x) (Z : REL x m0 C S0 YB m R I H S Ar M l) {y1 : Int32} : PAIR e x m0 C S0 YB 144 298 [.int y1] (ks3 1 2 3) m := by
  have hR : hB TR 1 x R m := Z.2.1.1
  have hA : hB TA 19 (x + 26) (Ar 0) m := Z.2.1.2.2.2.2 0 (by omega)
  rcases Z.2.2.2.2.2.2.2.2.2.2.1 with ⟨rl, ml, ub⟩ | ⟨rl, ml, Y, hY, W⟩
  · exact pair_e Z (E := 1) (r144_1 (d := 11) hR hA rl) (by decide) (by decide) (fun m' => m298_1 (d := 13) (by omega) ml)
  · obtain ⟨n, c, K, k5, hi⟩ := Z.2.2.2.2.2.2.2.2.2.2.2.1
    have c8 := K.2.2.2
    obtain ⟨N, n1, n2, -, n4⟩ := W.2.1.1.ex
    cases hx : rngB 0 ((N : Int) - 1) y1 with
    | false => exact pair_e Z (E := 2) (r144_2 (d := 11) hR hA rl W n1 n4 hx) (by decide) (by decide) (fun m' => m298_2 (d := 13) (by omega) ml n1 n4 hx)
    | true =>
      obtain ⟨k, hk, rfl⟩ := rng_t hx
      by_cases h5 : bx (M.1 2) k 5 = nM1
      · exact pair_e Z (E := 3) (r144_3 (d := 11) hR hA rl W n1 n4 hk h5) (by decide) (by decide) (fun m' => m298_3 (d := 13) (by omega) ml n1 n4 hk h5)
      · obtain ⟨m1, g, G⟩ := b144_0 (d := 11) Z.2.1 K (by omega) rl W n1 n4 hk h5
        exact pair_c Z K k5 hi rl ml hY W g G (by omega) (fun m' => m298_0 (d := 13) (by omega) ml c8 k5 W.2.1 n1 n4 hk h5)
theorem pr55 (he : e.1 ≤ x) (Z : REL x m0 C S0 YB m R I H S Ar M l) {y1 y2 : Int32} : PAIR e x m0 C S0 YB 142 296 [.int y1, .int y2] (ks3 1 2 3) m := by
  have hR : hB TR 1 x R m := Z.2.1.1
  have hA : hB TA 19 (x + 26) (Ar 0) m := Z.2.1.2.2.2.2 0 (by omega)
  rcases Z.2.2.2.2.2.2.2.2.2.2.1 with ⟨rl, ml, ub⟩ | ⟨rl, ml, Y, hY, W⟩
  · exact pair_e Z (E := 1) (r142_1 (d := 11) hR hA rl) (by decide) (by decide) (fun m' => m296_1 (d := 16) (by omega) ml)
  · obtain ⟨n, c, K, k5, hi⟩ := Z.2.2.2.2.2.2.2.2.2.2.2.1
    have c8 := K.2.2.2
    obtain ⟨N, n1, n2, -, n4⟩ := W.2.1.1.ex
    cases hx : rngB 0 ((N : Int) - 1) y1 with
    | false => exact pair_e Z (E := 2) (r142_2 (d := 11) hR hA rl W n1 n4 hx) (by decide) (by decide) (fun m' => m296_2 (d := 16) (by omega) ml n1 n4 hx)
    | true =>
      obtain ⟨k, hk, rfl⟩ := rng_t hx
      cases h9 : rngB (M.1 2 0).toInt 9999 y2 with
      | false => exact pair_e Z (E := 3) (r142_3 (d := 11) hR hA rl W n1 n4 hk h9) (by decide) (by decide) (fun m' => m296_3 (d := 16) (by omega) ml n1 n4 hk (by rw [h9]; rfl))
      | true =>
        cases hg : gonB (M.1 2) k with
        | true => exact pair_e Z (E := 3) (r142_3b (d := 11) hR hA rl W n1 n4 hk h9 hg) (by decide) (by decide) (fun m' => m296_3 (d := 16) (by omega) ml n1 n4 hk (by rw [h9, hg]; rfl))
        | false =>
          obtain ⟨m1, g, G⟩ := b142_0 (d := 11) Z.2.1 K (by omega) rl W n1 n4 hk h9 hg
          exact pair_c Z K k5 hi rl ml hY W g G (by omega) (fun m' => m296_0 (d := 16) (by omega) ml c8 k5 n1 n4 hk h9 hg)
theorem pr54 (he : e.1 ≤ x) (Z : REL x m0 C S0 YB m R I H S Ar M l) {y1 y2 y3 : Int32} : PAIR e x m0 C S0 YB 141 295 [.int y1, .int y2, .int y3] (ks3 1 2 3) m := by
  have hR : hB TR 1 x R m := Z.2.1.1
  have hA : hB TA 19 (x + 26) (Ar 0) m := Z.2.1.2.2.2.2 0 (by omega)
  rcases Z.2.2.2.2.2.2.2.2.2.2.1 with ⟨rl, ml, ub⟩ | ⟨rl, ml, Y, hY, W⟩
  · exact pair_e Z (E := 1) (r141_1 (d := 11) hR hA rl) (by decide) (by decide) (fun m' => m295_1 (d := 16) (by omega) ml)
  · obtain ⟨n, c, K, k5, hi⟩ := Z.2.2.2.2.2.2.2.2.2.2.2.1
    have c8 := K.2.2.2
    obtain ⟨N, n1, n2, -, n4⟩ := W.2.1.1.ex
    cases hx : rngB 0 ((N : Int) - 1) y1 with
    | false => exact pair_e Z (E := 2) (r141_2 (d := 11) hR hA rl W n1 n4 hx) (by decide) (by decide) (fun m' => m295_2 (d := 16) (by omega) ml n1 n4 hx)
    | true =>
      obtain ⟨k, hk, rfl⟩ := rng_t hx
      cases hp : (rngB 0 ((nN (M.1 1 0) : Int) - 1) y2 && rngB 0 ((nN (M.1 1 1) : Int) - 1) y3) with
      | false => exact pair_e Z (E := 2) (r141_2b (d := 11) hR hA rl W n1 n4 hk hp) (by decide) (by decide) (fun m' => m295_2b (d := 16) (by omega) ml n1 n4 hk W.2.2 hp)
      | true =>
        obtain ⟨x1, x2⟩ := (Bool.and_eq_true _ _).mp hp
        obtain ⟨i, hi', rfl⟩ := rng_t x1
        obtain ⟨j, hj, rfl⟩ := rng_t x2
        cases hg : gonB (M.1 2) k with
        | true => exact pair_e Z (E := 3) (r141_3 (d := 11) hR hA rl W n1 n4 hk hi' hj hg) (by decide) (by decide) (fun m' => m295_3 (d := 16) (by omega) ml n1 n4 hk W.2.2 W.2.1.1 hi' hj (by rw [hg]; rfl))
        | false =>
          by_cases hb : boxOnS (M.1 2) (Int32.ofNat (i * nN (M.1 1 1) + j)) = nM1
          · obtain ⟨m1, g, G⟩ := b141_0 (d := 11) Z.2.1 K (by omega) rl W n1 n4 hk hi' hj hg hb
            exact pair_c Z K k5 hi rl ml hY W g G (by omega) (fun m' => m295_0 (d := 16) (by omega) ml c8 k5 n1 n4 hk W.2.2 W.2.1.1 hi' hj hg hb)
          · exact pair_e Z (E := 3) (r141_3b (d := 11) hR hA rl W n1 n4 hk hi' hj hg hb) (by decide) (by decide) (fun m' => m295_3 (d := 16) (by omega) ml n1 n4 hk W.2.2 W.2.1.1 hi' hj (by rw [hg, decide_eq_false hb]; rfl))
theorem pr59 (he : e.1 ≤ x) (Z : REL x m0 C S0 YB m R I H S Ar M l) {y1 y2 : Int32} (hYB : YB ≤ 900000) : PAIR e x m0 C S0 YB 146 300 [.int y1, .int y2] (ks3 1 2 3) m := by
  have hR : hB TR 1 x R m := Z.2.1.1
  have hA : hB TA 19 (x + 26) (Ar 0) m := Z.2.1.2.2.2.2 0 (by omega)
  rcases Z.2.2.2.2.2.2.2.2.2.2.1 with ⟨rl, ml, ub⟩ | ⟨rl, ml, Y, hY, W⟩
  · exact pair_e Z (E := 1) (r146_1 (d := 11) hR hA rl) (by decide) (by decide) (fun m' => m300_1 (d := 16) (by omega) ml)
  · obtain ⟨n, c, K, k5, hi⟩ := Z.2.2.2.2.2.2.2.2.2.2.2.1
    have c8 := K.2.2.2
    obtain ⟨N, n1, n2, -, n4⟩ := W.2.1.1.ex
    cases hx : rngB 0 ((N : Int) - 1) y1 with
    | false => exact pair_e Z (E := 2) (r146_2 (d := 11) hR hA rl W n1 n4 hx) (by decide) (by decide) (fun m' => m300_2 (d := 16) (by omega) ml n1 n4 hx)
    | true =>
      obtain ⟨k, hk, rfl⟩ := rng_t hx
      cases h20 : rngB 1 20 y2 with
      | false => exact pair_e Z (E := 3) (r146_3 (d := 11) hR hA rl W n1 n4 hk h20) (by decide) (by decide) (fun m' => m300_3 (d := 16) (by omega) ml n1 n4 hk W.2.1.2.1 (by rw [h20]; rfl))
      | true =>
        obtain ⟨v, rfl, v1, v2⟩ := rng_ab (a := 1) (b := 20) (by omega) h20
        cases hp : fnd (nlS (M.1 2)) (fun i => decide (M.1 2 (3 + i) = Int32.ofNat k)) with
        | none =>
          have hL : isLB (M.1 2) (Int32.ofNat k) = false := by
            unfold isLB anyB
            rw [hp]
            rfl
          exact pair_e Z (E := 3) (r146_3b (d := 11) hR hA rl W n1 n4 hk v1 v2 hp) (by decide) (by decide) (fun m' => m300_3 (d := 16) (by omega) ml n1 n4 hk W.2.1.2.1 (by rw [hL, Bool.and_false]))
        | some p =>
          have hL : isLB (M.1 2) (Int32.ofNat k) = true := by
            unfold isLB anyB
            rw [hp]
            rfl
          obtain ⟨f1, f2, -⟩ := fnd_some hp
          have hkb : k < nbS (M.1 2) := by rw [show nbS (M.1 2) = N from n2]; exact hk
          have hq : okI 0 7 (bx (stkS (M.1 2) k (Int32.ofNat v)) k 0) := by
            rw [(stk_is W.2.1 f1 (of_decide_eq_true f2)).2.2.2 k 0 (by omega), if_neg (by omega)]
            exact (W.2.1.2.2.2.1 k hkb).1
          obtain ⟨m1, g, G⟩ := b146_0 (d := 11) Z.2.1 K (by omega) rl W n1 n4 hk v1 v2 (by omega) hp
          exact pair_c Z K k5 hi rl ml hY W g G (by omega) (fun m' => m300_0 (d := 16) (by omega) ml c8 k5 W.2.1 n1 n4 hk v1 v2 hL hq)
theorem pr56 (he : e.1 ≤ x) (Z : REL x m0 C S0 YB m R I H S Ar M l) {y1 y2 : Int32} : PAIR e x m0 C S0 YB 143 297 [.int y1, .int y2] (ks3 1 2 3) m := by
  have hR : hB TR 1 x R m := Z.2.1.1
  have hA : hB TA 19 (x + 26) (Ar 0) m := Z.2.1.2.2.2.2 0 (by omega)
  rcases Z.2.2.2.2.2.2.2.2.2.2.1 with ⟨rl, ml, ub⟩ | ⟨rl, ml, Y, hY, W⟩
  · exact pair_e Z (E := 1) (r143_1 (d := 11) hR hA rl) (by decide) (by decide) (fun m' => m297_1 (d := 14) (by omega) ml)
  · obtain ⟨n, c, K, k5, hi⟩ := Z.2.2.2.2.2.2.2.2.2.2.2.1
    have c8 := K.2.2.2
    obtain ⟨N, n1, n2, -, n4⟩ := W.2.1.1.ex
    obtain ⟨r, r1, r2, -, r4⟩ := W.2.2.2.2.2.1.ex
    cases hx : rngB 0 ((r : Int) - 1) y1 with
    | false => exact pair_e Z (E := 2) (r143_2 (d := 11) hR hA rl W r1 r4 hx) (by decide) (by decide) (fun m' => m297_2 (d := 14) (by omega) ml r1 r4 n1 n4 (by rw [hx]; rfl))
    | true =>
      obtain ⟨j, hj, rfl⟩ := rng_t hx
      cases hx2 : rngB 0 ((N : Int) - 1) y2 with
      | false => exact pair_e Z (E := 2) (r143_2b (d := 11) hR hA rl W r1 r4 hj n1 n4 hx2) (by decide) (by decide) (fun m' => m297_2 (d := 14) (by omega) ml r1 r4 n1 n4 (by rw [hx2, Bool.and_false]))
      | true =>
        obtain ⟨k, hk, rfl⟩ := rng_t hx2
        have wb := W.2.1.2.2.2.1 k (by rw [show nbS (M.1 2) = N from n2]; exact hk)
        by_cases ho : obsS (M.1 2) (M.1 1) (Int32.ofNat j) k = Int32.ofNat 0
        · obtain ⟨m1, g, G⟩ := b143_0 (d := 11) Z.2.1 K (by omega) rl W n1 n4 hk r1 r4 hj ho
          have h8 : nN (bx (M.1 2) k 8) ≠ 3 := by
            intro q
            apply (obs_0 ho).2
            rw [wb.2.2.2.2.2.2.1.1, q]
          exact pair_c Z K k5 hi rl ml hY W g G (by omega) (fun m' => m297_0 (d := 14) (by omega) ml c8 k5 r1 r4 n1 n4 hj hk wb.1 wb.2.2.2.2.2.2.1 (Or.inl h8) ho)
        · exact pair_e Z (E := 3) (r143_3 (d := 11) hR hA rl W r1 r4 hj n1 n4 hk ho) (by decide) (by decide) (fun m' => m297_3 (d := 14) (by omega) ml r1 r4 n1 n4 hj hk wb.1 wb.2.2.2.2.2.2.1 ho)
theorem pr53 (he : e.1 ≤ x) (Z : REL x m0 C S0 YB m R I H S Ar M l) {y1 y2 : Int32} (hYB : YB ≤ 900000) : PAIR e x m0 C S0 YB 140 294 [.int y1, .int y2] (ks3 1 2 3) m := by
  have hR : hB TR 1 x R m := Z.2.1.1
  have hA : hB TA 19 (x + 26) (Ar 0) m := Z.2.1.2.2.2.2 0 (by omega)
  rcases Z.2.2.2.2.2.2.2.2.2.2.1 with ⟨rl, ml, ub⟩ | ⟨rl, ml, Y, hY, W⟩
  · exact pair_e Z (E := 1) (r140_1 (d := 11) hR hA rl) (by decide) (by decide) (fun m' => m294_1 (d := 14) (by omega) ml)
  · obtain ⟨n, c, K, k5, hi⟩ := Z.2.2.2.2.2.2.2.2.2.2.2.1
    have c8 := K.2.2.2
    obtain ⟨N, n1, n2, -, n4⟩ := W.2.2.2.2.1.ex
    cases hx : rngB 0 ((N : Int) - 1) y1 with
    | false => exact pair_e Z (E := 2) (r140_2 (d := 11) hR hA rl W n1 n4 hx) (by decide) (by decide) (fun m' => m294_2 (d := 14) (by omega) ml n1 n4 hx)
    | true =>
      obtain ⟨k, hk, rfl⟩ := rng_t hx
      cases h18 : rngB 1800 (M.1 2 0).toInt y2 with
      | false => exact pair_e Z (E := 3) (r140_3 (d := 11) hR hA rl W n1 n4 hk h18) (by decide) (by decide) (fun m' => m294_3 (d := 14) (by omega) ml n1 n4 hk W.2.1.1 W.2.2 (by rw [h18]; rfl))
      | true =>
        obtain ⟨Q, q1, q2, q3, q4⟩ := W.2.1.2.2.1.ex
        obtain ⟨b, b1, b2, -, b4⟩ := W.2.1.1.ex
        have h18' : rngB ((1800 : Nat) : Int) (Q : Int) y2 = true := by
          rw [q1, nToI (by omega)] at h18
          exact h18
        obtain ⟨v, rfl, v1, v2⟩ := rng_ab (by omega) h18'
        have e24 : decide (nbS (M.1 2) < 24) = !decide (M.1 2 1 = Int32.ofNat 24) := by
          have b2' : nbS (M.1 2) = b := b2
          by_cases q : b < 24
          · rw [decide_eq_true (by omega), decide_eq_false (by rw [b1, nEq (by omega) (by omega)]; omega)]
            rfl
          · rw [decide_eq_false (by omega), decide_eq_true (by rw [b1, nEq (by omega) (by omega)]; omega)]
            rfl
        cases hb : (decide (nbS (M.1 2) < 24) && !decide (fstS (M.1 2) (M.1 1) = nM1)) with
        | false => exact pair_e Z (E := 3) (r140_3b (d := 11) hR hA rl W n1 n4 hk v1 (by rw [show nN (M.1 2 0) = Q from q2]; exact v2) hb (by omega)) (by decide) (by decide) (fun m' => m294_3 (d := 14) (by omega) ml n1 n4 hk W.2.1.1 W.2.2 (by rw [e24] at hb; rw [h18, Bool.true_and, hb]))
        | true =>
          obtain ⟨f1, f2⟩ := (Bool.and_eq_true _ _).mp hb
          have hb1 : nbS (M.1 2) < 24 := of_decide_eq_true f1
          have hb2 : ¬ fstS (M.1 2) (M.1 1) = nM1 := fun z => by
            rw [decide_eq_true z] at f2
            cases f2
          have hb3 : ¬ M.1 2 1 = Int32.ofNat 24 := fun z => by
            rw [e24, decide_eq_true z] at f1
            cases f1
          obtain ⟨q, hq, hqm⟩ : ∃ q, fstS (M.1 2) (M.1 1) = Int32.ofNat q ∧ q < mkN (M.1 1) := by
            have hb2' := hb2
            unfold fstS fI at hb2' ⊢
            cases hf : fnd (mkN (M.1 1)) (frB (M.1 2)) with
            | none => rw [hf] at hb2'; exact absurd rfl hb2'
            | some q => exact ⟨q, rfl, (fnd_some hf).1⟩
          have hm47 := (WH_mk W.2.2).2.2
          obtain ⟨m1, g, G⟩ := b140_0 (d := 11) Z.2.1 K (by omega) rl W n1 n4 hk (by omega) v1 (by rw [show nN (M.1 2 0) = Q from q2]; exact v2) hb1 hq hqm (by omega)
          refine pair_c Z K k5 hi rl ml hY W g G (by omega) (fun m' => ?_)
          have r := m294_0 (e := e) (d := 14) (b := x + 261) (m := m') (by omega) ml c8 k5 n1 n4 hk W.2.1.1 W.2.2 h18 hb3 hb2
          rw [hq] at r
          exact r
end
end

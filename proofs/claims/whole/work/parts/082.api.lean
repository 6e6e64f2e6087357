/-! ===== the class's calls: refusals, queries (printed by wip/whole/api.py) ===== -/
noncomputable section
theorem hA_c0 {a : Nat} {X : bX} {m : dMem} (Z : hB TA 19 a X m) : isC m a 2 = true := by
  have := A_c0 (a := a) (X := X) (m := m)
  rwa [ov_self Z] at this
theorem hA_r0_0 {a : Nat} {X : bX} {m : dMem} (Z : hB TA 19 a X m) : gR m a 2 0 = some (a + 1) := by
  have := A_r0_0 (a := a) (X := X) (m := m)
  rwa [ov_self Z] at this
theorem hA_r0_1 {a : Nat} {X : bX} {m : dMem} (Z : hB TA 19 a X m) : gR m a 2 1 = some (a + 6) := by
  have := A_r0_1 (a := a) (X := X) (m := m)
  rwa [ov_self Z] at this
theorem hA_r0_2 {a : Nat} {X : bX} {m : dMem} (Z : hB TA 19 a X m) : gR m a 2 2 = some (a + 9) := by
  have := A_r0_2 (a := a) (X := X) (m := m)
  rwa [ov_self Z] at this
theorem hA_r0_3 {a : Nat} {X : bX} {m : dMem} (Z : hB TA 19 a X m) : gR m a 2 3 = some (a + 10) := by
  have := A_r0_3 (a := a) (X := X) (m := m)
  rwa [ov_self Z] at this
theorem hA_r0_4 {a : Nat} {X : bX} {m : dMem} (Z : hB TA 19 a X m) : gR m a 2 4 = some (a + 11) := by
  have := A_r0_4 (a := a) (X := X) (m := m)
  rwa [ov_self Z] at this
theorem hA_r0_5 {a : Nat} {X : bX} {m : dMem} (Z : hB TA 19 a X m) : gR m a 2 5 = some (a + 12) := by
  have := A_r0_5 (a := a) (X := X) (m := m)
  rwa [ov_self Z] at this
theorem hA_r0_6 {a : Nat} {X : bX} {m : dMem} (Z : hB TA 19 a X m) : gR m a 2 6 = some (a + 13) := by
  have := A_r0_6 (a := a) (X := X) (m := m)
  rwa [ov_self Z] at this
theorem hA_r0_7 {a : Nat} {X : bX} {m : dMem} (Z : hB TA 19 a X m) : gR m a 2 7 = some (a + 14) := by
  have := A_r0_7 (a := a) (X := X) (m := m)
  rwa [ov_self Z] at this
theorem hA_r0_8 {a : Nat} {X : bX} {m : dMem} (Z : hB TA 19 a X m) : gR m a 2 8 = some (a + 15) := by
  have := A_r0_8 (a := a) (X := X) (m := m)
  rwa [ov_self Z] at this
theorem hA_r0_9 {a : Nat} {X : bX} {m : dMem} (Z : hB TA 19 a X m) : gR m a 2 9 = some (a + 16) := by
  have := A_r0_9 (a := a) (X := X) (m := m)
  rwa [ov_self Z] at this
theorem hA_r0_10 {a : Nat} {X : bX} {m : dMem} (Z : hB TA 19 a X m) : gR m a 2 10 = some (a + 17) := by
  have := A_r0_10 (a := a) (X := X) (m := m)
  rwa [ov_self Z] at this
theorem hA_r0_11 {a : Nat} {X : bX} {m : dMem} (Z : hB TA 19 a X m) : gR m a 2 11 = some (a + 18) := by
  have := A_r0_11 (a := a) (X := X) (m := m)
  rwa [ov_self Z] at this
theorem hA_g0_12 {a : Nat} {X : bX} {m : dMem} (Z : hB TA 19 a X m) : gI m a 2 12 = some (X.1 0 12) := by
  have := A_g0_12 (a := a) (X := X) (m := m)
  rwa [ov_self Z] at this
theorem hA_g0_13 {a : Nat} {X : bX} {m : dMem} (Z : hB TA 19 a X m) : gI m a 2 13 = some (X.1 0 13) := by
  have := A_g0_13 (a := a) (X := X) (m := m)
  rwa [ov_self Z] at this
theorem hA_g0_14 {a : Nat} {X : bX} {m : dMem} (Z : hB TA 19 a X m) : gI m a 2 14 = some (X.1 0 14) := by
  have := A_g0_14 (a := a) (X := X) (m := m)
  rwa [ov_self Z] at this
theorem hA_g0_15 {a : Nat} {X : bX} {m : dMem} (Z : hB TA 19 a X m) : gI m a 2 15 = some (X.1 0 15) := by
  have := A_g0_15 (a := a) (X := X) (m := m)
  rwa [ov_self Z] at this
theorem hA_g0_16 {a : Nat} {X : bX} {m : dMem} (Z : hB TA 19 a X m) : gI m a 2 16 = some (X.1 0 16) := by
  have := A_g0_16 (a := a) (X := X) (m := m)
  rwa [ov_self Z] at this
theorem hA_c1 {a : Nat} {X : bX} {m : dMem} (Z : hB TA 19 a X m) : isC m (a + 1) 7 = true := by
  have := A_c1 (a := a) (X := X) (m := m)
  rwa [ov_self Z] at this
theorem hA_r1_0 {a : Nat} {X : bX} {m : dMem} (Z : hB TA 19 a X m) : gR m (a + 1) 7 0 = some (a + 2) := by
  have := A_r1_0 (a := a) (X := X) (m := m)
  rwa [ov_self Z] at this
theorem hA_r1_1 {a : Nat} {X : bX} {m : dMem} (Z : hB TA 19 a X m) : gR m (a + 1) 7 1 = some (a + 3) := by
  have := A_r1_1 (a := a) (X := X) (m := m)
  rwa [ov_self Z] at this
theorem hA_r1_2 {a : Nat} {X : bX} {m : dMem} (Z : hB TA 19 a X m) : gR m (a + 1) 7 2 = some (a + 4) := by
  have := A_r1_2 (a := a) (X := X) (m := m)
  rwa [ov_self Z] at this
theorem hA_r1_3 {a : Nat} {X : bX} {m : dMem} (Z : hB TA 19 a X m) : gR m (a + 1) 7 3 = some (a + 5) := by
  have := A_r1_3 (a := a) (X := X) (m := m)
  rwa [ov_self Z] at this
theorem hA_g1_4 {a : Nat} {X : bX} {m : dMem} (Z : hB TA 19 a X m) : gI m (a + 1) 7 4 = some (X.1 1 4) := by
  have := A_g1_4 (a := a) (X := X) (m := m)
  rwa [ov_self Z] at this
theorem hA_a2 {a : Nat} {X : bX} {m : dMem} (Z : hB TA 19 a X m) {j : Nat} (hj : j < 8) : aL m 1 (a + 2) (Int32.ofNat j) = some (X.2 2 j) := by
  have := A_a2 (a := a) (X := X) (m := m) hj
  rwa [ov_self Z] at this
theorem hA_n2 {a : Nat} {X : bX} {m : dMem} (Z : hB TA 19 a X m) : aN m (a + 2) = some (Int32.ofNat 8) := by
  have := A_n2 (a := a) (X := X) (m := m)
  rwa [ov_self Z] at this
theorem hA_a3 {a : Nat} {X : bX} {m : dMem} (Z : hB TA 19 a X m) {j : Nat} (hj : j < 8) : aI m 0 (a + 3) (Int32.ofNat j) = some (X.1 3 j) := by
  have := A_a3 (a := a) (X := X) (m := m) hj
  rwa [ov_self Z] at this
theorem hA_n3 {a : Nat} {X : bX} {m : dMem} (Z : hB TA 19 a X m) : aN m (a + 3) = some (Int32.ofNat 8) := by
  have := A_n3 (a := a) (X := X) (m := m)
  rwa [ov_self Z] at this
theorem hA_a4 {a : Nat} {X : bX} {m : dMem} (Z : hB TA 19 a X m) {j : Nat} (hj : j < 8) : aI m 0 (a + 4) (Int32.ofNat j) = some (X.1 4 j) := by
  have := A_a4 (a := a) (X := X) (m := m) hj
  rwa [ov_self Z] at this
theorem hA_n4 {a : Nat} {X : bX} {m : dMem} (Z : hB TA 19 a X m) : aN m (a + 4) = some (Int32.ofNat 8) := by
  have := A_n4 (a := a) (X := X) (m := m)
  rwa [ov_self Z] at this
theorem hA_a5 {a : Nat} {X : bX} {m : dMem} (Z : hB TA 19 a X m) {j : Nat} (hj : j < 8) : aI m 4 (a + 5) (Int32.ofNat j) = some (X.1 5 j) := by
  have := A_a5 (a := a) (X := X) (m := m) hj
  rwa [ov_self Z] at this
theorem hA_n5 {a : Nat} {X : bX} {m : dMem} (Z : hB TA 19 a X m) : aN m (a + 5) = some (Int32.ofNat 8) := by
  have := A_n5 (a := a) (X := X) (m := m)
  rwa [ov_self Z] at this
theorem hA_c6 {a : Nat} {X : bX} {m : dMem} (Z : hB TA 19 a X m) : isC m (a + 6) 6 = true := by
  have := A_c6 (a := a) (X := X) (m := m)
  rwa [ov_self Z] at this
theorem hA_r6_0 {a : Nat} {X : bX} {m : dMem} (Z : hB TA 19 a X m) : gR m (a + 6) 6 0 = some (a + 7) := by
  have := A_r6_0 (a := a) (X := X) (m := m)
  rwa [ov_self Z] at this
theorem hA_r6_1 {a : Nat} {X : bX} {m : dMem} (Z : hB TA 19 a X m) : gR m (a + 6) 6 1 = some (a + 8) := by
  have := A_r6_1 (a := a) (X := X) (m := m)
  rwa [ov_self Z] at this
theorem hA_g6_2 {a : Nat} {X : bX} {m : dMem} (Z : hB TA 19 a X m) : gI m (a + 6) 6 2 = some (X.1 6 2) := by
  have := A_g6_2 (a := a) (X := X) (m := m)
  rwa [ov_self Z] at this
theorem hA_a7 {a : Nat} {X : bX} {m : dMem} (Z : hB TA 19 a X m) {j : Nat} (hj : j < 6) : aL m 1 (a + 7) (Int32.ofNat j) = some (X.2 7 j) := by
  have := A_a7 (a := a) (X := X) (m := m) hj
  rwa [ov_self Z] at this
theorem hA_n7 {a : Nat} {X : bX} {m : dMem} (Z : hB TA 19 a X m) : aN m (a + 7) = some (Int32.ofNat 6) := by
  have := A_n7 (a := a) (X := X) (m := m)
  rwa [ov_self Z] at this
theorem hA_a8 {a : Nat} {X : bX} {m : dMem} (Z : hB TA 19 a X m) {j : Nat} (hj : j < 6) : aI m 0 (a + 8) (Int32.ofNat j) = some (X.1 8 j) := by
  have := A_a8 (a := a) (X := X) (m := m) hj
  rwa [ov_self Z] at this
theorem hA_n8 {a : Nat} {X : bX} {m : dMem} (Z : hB TA 19 a X m) : aN m (a + 8) = some (Int32.ofNat 6) := by
  have := A_n8 (a := a) (X := X) (m := m)
  rwa [ov_self Z] at this
theorem hA_a9 {a : Nat} {X : bX} {m : dMem} (Z : hB TA 19 a X m) {j : Nat} (hj : j < 24) : aI m 0 (a + 9) (Int32.ofNat j) = some (X.1 9 j) := by
  have := A_a9 (a := a) (X := X) (m := m) hj
  rwa [ov_self Z] at this
theorem hA_n9 {a : Nat} {X : bX} {m : dMem} (Z : hB TA 19 a X m) : aN m (a + 9) = some (Int32.ofNat 24) := by
  have := A_n9 (a := a) (X := X) (m := m)
  rwa [ov_self Z] at this
theorem hA_a10 {a : Nat} {X : bX} {m : dMem} (Z : hB TA 19 a X m) {j : Nat} (hj : j < 24) : aI m 0 (a + 10) (Int32.ofNat j) = some (X.1 10 j) := by
  have := A_a10 (a := a) (X := X) (m := m) hj
  rwa [ov_self Z] at this
theorem hA_n10 {a : Nat} {X : bX} {m : dMem} (Z : hB TA 19 a X m) : aN m (a + 10) = some (Int32.ofNat 24) := by
  have := A_n10 (a := a) (X := X) (m := m)
  rwa [ov_self Z] at this
theorem hA_a11 {a : Nat} {X : bX} {m : dMem} (Z : hB TA 19 a X m) {j : Nat} (hj : j < 24) : aI m 0 (a + 11) (Int32.ofNat j) = some (X.1 11 j) := by
  have := A_a11 (a := a) (X := X) (m := m) hj
  rwa [ov_self Z] at this
theorem hA_n11 {a : Nat} {X : bX} {m : dMem} (Z : hB TA 19 a X m) : aN m (a + 11) = some (Int32.ofNat 24) := by
  have := A_n11 (a := a) (X := X) (m := m)
  rwa [ov_self Z] at this
theorem hA_a12 {a : Nat} {X : bX} {m : dMem} (Z : hB TA 19 a X m) {j : Nat} (hj : j < 24) : aI m 0 (a + 12) (Int32.ofNat j) = some (X.1 12 j) := by
  have := A_a12 (a := a) (X := X) (m := m) hj
  rwa [ov_self Z] at this
theorem hA_n12 {a : Nat} {X : bX} {m : dMem} (Z : hB TA 19 a X m) : aN m (a + 12) = some (Int32.ofNat 24) := by
  have := A_n12 (a := a) (X := X) (m := m)
  rwa [ov_self Z] at this
theorem hA_a13 {a : Nat} {X : bX} {m : dMem} (Z : hB TA 19 a X m) {j : Nat} (hj : j < 24) : aI m 0 (a + 13) (Int32.ofNat j) = some (X.1 13 j) := by
  have := A_a13 (a := a) (X := X) (m := m) hj
  rwa [ov_self Z] at this
theorem hA_n13 {a : Nat} {X : bX} {m : dMem} (Z : hB TA 19 a X m) : aN m (a + 13) = some (Int32.ofNat 24) := by
  have := A_n13 (a := a) (X := X) (m := m)
  rwa [ov_self Z] at this
theorem hA_a14 {a : Nat} {X : bX} {m : dMem} (Z : hB TA 19 a X m) {j : Nat} (hj : j < 24) : aI m 0 (a + 14) (Int32.ofNat j) = some (X.1 14 j) := by
  have := A_a14 (a := a) (X := X) (m := m) hj
  rwa [ov_self Z] at this
theorem hA_n14 {a : Nat} {X : bX} {m : dMem} (Z : hB TA 19 a X m) : aN m (a + 14) = some (Int32.ofNat 24) := by
  have := A_n14 (a := a) (X := X) (m := m)
  rwa [ov_self Z] at this
theorem hA_a15 {a : Nat} {X : bX} {m : dMem} (Z : hB TA 19 a X m) {j : Nat} (hj : j < 24) : aI m 0 (a + 15) (Int32.ofNat j) = some (X.1 15 j) := by
  have := A_a15 (a := a) (X := X) (m := m) hj
  rwa [ov_self Z] at this
theorem hA_n15 {a : Nat} {X : bX} {m : dMem} (Z : hB TA 19 a X m) : aN m (a + 15) = some (Int32.ofNat 24) := by
  have := A_n15 (a := a) (X := X) (m := m)
  rwa [ov_self Z] at this
theorem hA_a16 {a : Nat} {X : bX} {m : dMem} (Z : hB TA 19 a X m) {j : Nat} (hj : j < 24) : aI m 0 (a + 16) (Int32.ofNat j) = some (X.1 16 j) := by
  have := A_a16 (a := a) (X := X) (m := m) hj
  rwa [ov_self Z] at this
theorem hA_n16 {a : Nat} {X : bX} {m : dMem} (Z : hB TA 19 a X m) : aN m (a + 16) = some (Int32.ofNat 24) := by
  have := A_n16 (a := a) (X := X) (m := m)
  rwa [ov_self Z] at this
theorem hA_a17 {a : Nat} {X : bX} {m : dMem} (Z : hB TA 19 a X m) {j : Nat} (hj : j < 72) : aI m 0 (a + 17) (Int32.ofNat j) = some (X.1 17 j) := by
  have := A_a17 (a := a) (X := X) (m := m) hj
  rwa [ov_self Z] at this
theorem hA_n17 {a : Nat} {X : bX} {m : dMem} (Z : hB TA 19 a X m) : aN m (a + 17) = some (Int32.ofNat 72) := by
  have := A_n17 (a := a) (X := X) (m := m)
  rwa [ov_self Z] at this
theorem hA_a18 {a : Nat} {X : bX} {m : dMem} (Z : hB TA 19 a X m) {j : Nat} (hj : j < 24) : aI m 0 (a + 18) (Int32.ofNat j) = some (X.1 18 j) := by
  have := A_a18 (a := a) (X := X) (m := m) hj
  rwa [ov_self Z] at this
theorem hA_n18 {a : Nat} {X : bX} {m : dMem} (Z : hB TA 19 a X m) : aN m (a + 18) = some (Int32.ofNat 24) := by
  have := A_n18 (a := a) (X := X) (m := m)
  rwa [ov_self Z] at this
theorem hM_c0 {a : Nat} {X : bX} {m : dMem} (Z : hB TM 8 a X m) : isC m a 10 = true := by
  have := M_c0 (a := a) (X := X) (m := m)
  rwa [ov_self Z] at this
theorem hM_g0_0 {a : Nat} {X : bX} {m : dMem} (Z : hB TM 8 a X m) : gI m a 10 0 = some (X.1 0 0) := by
  have := M_g0_0 (a := a) (X := X) (m := m)
  rwa [ov_self Z] at this
theorem hM_g0_1 {a : Nat} {X : bX} {m : dMem} (Z : hB TM 8 a X m) : gI m a 10 1 = some (X.1 0 1) := by
  have := M_g0_1 (a := a) (X := X) (m := m)
  rwa [ov_self Z] at this
theorem hM_r0_2 {a : Nat} {X : bX} {m : dMem} (Z : hB TM 8 a X m) : gR m a 10 2 = some (a + 1) := by
  have := M_r0_2 (a := a) (X := X) (m := m)
  rwa [ov_self Z] at this
theorem hM_r0_3 {a : Nat} {X : bX} {m : dMem} (Z : hB TM 8 a X m) : gR m a 10 3 = some (a + 2) := by
  have := M_r0_3 (a := a) (X := X) (m := m)
  rwa [ov_self Z] at this
theorem hM_r0_4 {a : Nat} {X : bX} {m : dMem} (Z : hB TM 8 a X m) : gR m a 10 4 = some (a + 3) := by
  have := M_r0_4 (a := a) (X := X) (m := m)
  rwa [ov_self Z] at this
theorem hM_g0_5 {a : Nat} {X : bX} {m : dMem} (Z : hB TM 8 a X m) : gI m a 10 5 = some (X.1 0 5) := by
  have := M_g0_5 (a := a) (X := X) (m := m)
  rwa [ov_self Z] at this
theorem hM_r0_6 {a : Nat} {X : bX} {m : dMem} (Z : hB TM 8 a X m) : gR m a 10 6 = some (a + 4) := by
  have := M_r0_6 (a := a) (X := X) (m := m)
  rwa [ov_self Z] at this
theorem hM_r0_7 {a : Nat} {X : bX} {m : dMem} (Z : hB TM 8 a X m) : gR m a 10 7 = some (a + 5) := by
  have := M_r0_7 (a := a) (X := X) (m := m)
  rwa [ov_self Z] at this
theorem hM_g0_8 {a : Nat} {X : bX} {m : dMem} (Z : hB TM 8 a X m) : gI m a 10 8 = some (X.1 0 8) := by
  have := M_g0_8 (a := a) (X := X) (m := m)
  rwa [ov_self Z] at this
theorem hM_g0_9 {a : Nat} {X : bX} {m : dMem} (Z : hB TM 8 a X m) : gI m a 10 9 = some (X.1 0 9) := by
  have := M_g0_9 (a := a) (X := X) (m := m)
  rwa [ov_self Z] at this
theorem hM_g0_10 {a : Nat} {X : bX} {m : dMem} (Z : hB TM 8 a X m) : gI m a 10 10 = some (X.1 0 10) := by
  have := M_g0_10 (a := a) (X := X) (m := m)
  rwa [ov_self Z] at this
theorem hM_g0_11 {a : Nat} {X : bX} {m : dMem} (Z : hB TM 8 a X m) : gI m a 10 11 = some (X.1 0 11) := by
  have := M_g0_11 (a := a) (X := X) (m := m)
  rwa [ov_self Z] at this
theorem hM_g0_12 {a : Nat} {X : bX} {m : dMem} (Z : hB TM 8 a X m) : gI m a 10 12 = some (X.1 0 12) := by
  have := M_g0_12 (a := a) (X := X) (m := m)
  rwa [ov_self Z] at this
theorem hM_g0_13 {a : Nat} {X : bX} {m : dMem} (Z : hB TM 8 a X m) : gI m a 10 13 = some (X.1 0 13) := by
  have := M_g0_13 (a := a) (X := X) (m := m)
  rwa [ov_self Z] at this
theorem hM_g0_14 {a : Nat} {X : bX} {m : dMem} (Z : hB TM 8 a X m) : gI m a 10 14 = some (X.1 0 14) := by
  have := M_g0_14 (a := a) (X := X) (m := m)
  rwa [ov_self Z] at this
theorem hM_g0_15 {a : Nat} {X : bX} {m : dMem} (Z : hB TM 8 a X m) : gI m a 10 15 = some (X.1 0 15) := by
  have := M_g0_15 (a := a) (X := X) (m := m)
  rwa [ov_self Z] at this
theorem hM_g0_16 {a : Nat} {X : bX} {m : dMem} (Z : hB TM 8 a X m) : gI m a 10 16 = some (X.1 0 16) := by
  have := M_g0_16 (a := a) (X := X) (m := m)
  rwa [ov_self Z] at this
theorem hM_g0_17 {a : Nat} {X : bX} {m : dMem} (Z : hB TM 8 a X m) : gI m a 10 17 = some (X.1 0 17) := by
  have := M_g0_17 (a := a) (X := X) (m := m)
  rwa [ov_self Z] at this
theorem hM_r0_18 {a : Nat} {X : bX} {m : dMem} (Z : hB TM 8 a X m) : gR m a 10 18 = some (a + 6) := by
  have := M_r0_18 (a := a) (X := X) (m := m)
  rwa [ov_self Z] at this
theorem hM_g0_19 {a : Nat} {X : bX} {m : dMem} (Z : hB TM 8 a X m) : gI m a 10 19 = some (X.1 0 19) := by
  have := M_g0_19 (a := a) (X := X) (m := m)
  rwa [ov_self Z] at this
theorem hM_r0_20 {a : Nat} {X : bX} {m : dMem} (Z : hB TM 8 a X m) : gR m a 10 20 = some (a + 7) := by
  have := M_r0_20 (a := a) (X := X) (m := m)
  rwa [ov_self Z] at this
theorem hM_g0_21 {a : Nat} {X : bX} {m : dMem} (Z : hB TM 8 a X m) : gI m a 10 21 = some (X.1 0 21) := by
  have := M_g0_21 (a := a) (X := X) (m := m)
  rwa [ov_self Z] at this
theorem hM_a1 {a : Nat} {X : bX} {m : dMem} (Z : hB TM 8 a X m) {j : Nat} (hj : j < 118) : aI m 0 (a + 1) (Int32.ofNat j) = some (X.1 1 j) := by
  have := M_a1 (a := a) (X := X) (m := m) hj
  rwa [ov_self Z] at this
theorem hM_n1 {a : Nat} {X : bX} {m : dMem} (Z : hB TM 8 a X m) : aN m (a + 1) = some (Int32.ofNat 118) := by
  have := M_n1 (a := a) (X := X) (m := m)
  rwa [ov_self Z] at this
theorem hM_a2 {a : Nat} {X : bX} {m : dMem} (Z : hB TM 8 a X m) {j : Nat} (hj : j < 315) : aI m 0 (a + 2) (Int32.ofNat j) = some (X.1 2 j) := by
  have := M_a2 (a := a) (X := X) (m := m) hj
  rwa [ov_self Z] at this
theorem hM_n2 {a : Nat} {X : bX} {m : dMem} (Z : hB TM 8 a X m) : aN m (a + 2) = some (Int32.ofNat 315) := by
  have := M_n2 (a := a) (X := X) (m := m)
  rwa [ov_self Z] at this
theorem hM_a3 {a : Nat} {X : bX} {m : dMem} (Z : hB TM 8 a X m) {j : Nat} (hj : j < 3465) : aI m 0 (a + 3) (Int32.ofNat j) = some (X.1 3 j) := by
  have := M_a3 (a := a) (X := X) (m := m) hj
  rwa [ov_self Z] at this
theorem hM_n3 {a : Nat} {X : bX} {m : dMem} (Z : hB TM 8 a X m) : aN m (a + 3) = some (Int32.ofNat 3465) := by
  have := M_n3 (a := a) (X := X) (m := m)
  rwa [ov_self Z] at this
theorem hM_a4 {a : Nat} {X : bX} {m : dMem} (Z : hB TM 8 a X m) {j : Nat} (hj : j < 2) : aI m 4 (a + 4) (Int32.ofNat j) = some (X.1 4 j) := by
  have := M_a4 (a := a) (X := X) (m := m) hj
  rwa [ov_self Z] at this
theorem hM_n4 {a : Nat} {X : bX} {m : dMem} (Z : hB TM 8 a X m) : aN m (a + 4) = some (Int32.ofNat 2) := by
  have := M_n4 (a := a) (X := X) (m := m)
  rwa [ov_self Z] at this
theorem hM_a5 {a : Nat} {X : bX} {m : dMem} (Z : hB TM 8 a X m) {j : Nat} (hj : j < 600) : aI m 0 (a + 5) (Int32.ofNat j) = some (X.1 5 j) := by
  have := M_a5 (a := a) (X := X) (m := m) hj
  rwa [ov_self Z] at this
theorem hM_n5 {a : Nat} {X : bX} {m : dMem} (Z : hB TM 8 a X m) : aN m (a + 5) = some (Int32.ofNat 600) := by
  have := M_n5 (a := a) (X := X) (m := m)
  rwa [ov_self Z] at this
theorem hM_a6 {a : Nat} {X : bX} {m : dMem} (Z : hB TM 8 a X m) {j : Nat} (hj : j < 118) : aI m 0 (a + 6) (Int32.ofNat j) = some (X.1 6 j) := by
  have := M_a6 (a := a) (X := X) (m := m) hj
  rwa [ov_self Z] at this
theorem hM_n6 {a : Nat} {X : bX} {m : dMem} (Z : hB TM 8 a X m) : aN m (a + 6) = some (Int32.ofNat 118) := by
  have := M_n6 (a := a) (X := X) (m := m)
  rwa [ov_self Z] at this
theorem hM_a7 {a : Nat} {X : bX} {m : dMem} (Z : hB TM 8 a X m) {j : Nat} (hj : j < 400) : aI m 0 (a + 7) (Int32.ofNat j) = some (X.1 7 j) := by
  have := M_a7 (a := a) (X := X) (m := m) hj
  rwa [ov_self Z] at this
theorem hM_n7 {a : Nat} {X : bX} {m : dMem} (Z : hB TM 8 a X m) : aN m (a + 7) = some (Int32.ofNat 400) := by
  have := M_n7 (a := a) (X := X) (m := m)
  rwa [ov_self Z] at this
theorem hI_c0 {a : Nat} {X : bX} {m : dMem} (Z : hB TI 6 a X m) : isC m a 5 = true := by
  have := I_c0 (a := a) (X := X) (m := m)
  rwa [ov_self Z] at this
theorem hI_r0_0 {a : Nat} {X : bX} {m : dMem} (Z : hB TI 6 a X m) : gR m a 5 0 = some (a + 1) := by
  have := I_r0_0 (a := a) (X := X) (m := m)
  rwa [ov_self Z] at this
theorem hI_r0_1 {a : Nat} {X : bX} {m : dMem} (Z : hB TI 6 a X m) : gR m a 5 1 = some (a + 6) := by
  have := I_r0_1 (a := a) (X := X) (m := m)
  rwa [ov_self Z] at this
theorem hI_g0_2 {a : Nat} {X : bX} {m : dMem} (Z : hB TI 6 a X m) : gI m a 5 2 = some (X.1 0 2) := by
  have := I_g0_2 (a := a) (X := X) (m := m)
  rwa [ov_self Z] at this
theorem hI_g0_3 {a : Nat} {X : bX} {m : dMem} (Z : hB TI 6 a X m) : gI m a 5 3 = some (X.1 0 3) := by
  have := I_g0_3 (a := a) (X := X) (m := m)
  rwa [ov_self Z] at this
theorem hI_g0_4 {a : Nat} {X : bX} {m : dMem} (Z : hB TI 6 a X m) : gI m a 5 4 = some (X.1 0 4) := by
  have := I_g0_4 (a := a) (X := X) (m := m)
  rwa [ov_self Z] at this
theorem hI_c1 {a : Nat} {X : bX} {m : dMem} (Z : hB TI 6 a X m) : isC m (a + 1) 4 = true := by
  have := I_c1 (a := a) (X := X) (m := m)
  rwa [ov_self Z] at this
theorem hI_r1_0 {a : Nat} {X : bX} {m : dMem} (Z : hB TI 6 a X m) : gR m (a + 1) 4 0 = some (a + 2) := by
  have := I_r1_0 (a := a) (X := X) (m := m)
  rwa [ov_self Z] at this
theorem hI_g1_1 {a : Nat} {X : bX} {m : dMem} (Z : hB TI 6 a X m) : gI m (a + 1) 4 1 = some (X.1 1 1) := by
  have := I_g1_1 (a := a) (X := X) (m := m)
  rwa [ov_self Z] at this
theorem hI_r1_2 {a : Nat} {X : bX} {m : dMem} (Z : hB TI 6 a X m) : gR m (a + 1) 4 2 = some (a + 3) := by
  have := I_r1_2 (a := a) (X := X) (m := m)
  rwa [ov_self Z] at this
theorem hI_r1_3 {a : Nat} {X : bX} {m : dMem} (Z : hB TI 6 a X m) : gR m (a + 1) 4 3 = some (a + 4) := by
  have := I_r1_3 (a := a) (X := X) (m := m)
  rwa [ov_self Z] at this
theorem hI_r1_4 {a : Nat} {X : bX} {m : dMem} (Z : hB TI 6 a X m) : gR m (a + 1) 4 4 = some (a + 5) := by
  have := I_r1_4 (a := a) (X := X) (m := m)
  rwa [ov_self Z] at this
theorem hI_g1_5 {a : Nat} {X : bX} {m : dMem} (Z : hB TI 6 a X m) : gI m (a + 1) 4 5 = some (X.1 1 5) := by
  have := I_g1_5 (a := a) (X := X) (m := m)
  rwa [ov_self Z] at this
theorem hI_g1_6 {a : Nat} {X : bX} {m : dMem} (Z : hB TI 6 a X m) : gI m (a + 1) 4 6 = some (X.1 1 6) := by
  have := I_g1_6 (a := a) (X := X) (m := m)
  rwa [ov_self Z] at this
theorem hI_a2 {a : Nat} {X : bX} {m : dMem} (Z : hB TI 6 a X m) {j : Nat} (hj : j < 600) : aI m 3 (a + 2) (Int32.ofNat j) = some (X.1 2 j) := by
  have := I_a2 (a := a) (X := X) (m := m) hj
  rwa [ov_self Z] at this
theorem hI_n2 {a : Nat} {X : bX} {m : dMem} (Z : hB TI 6 a X m) : aN m (a + 2) = some (Int32.ofNat 600) := by
  have := I_n2 (a := a) (X := X) (m := m)
  rwa [ov_self Z] at this
theorem hI_a3 {a : Nat} {X : bX} {m : dMem} (Z : hB TI 6 a X m) {j : Nat} (hj : j < 601) : aI m 0 (a + 3) (Int32.ofNat j) = some (X.1 3 j) := by
  have := I_a3 (a := a) (X := X) (m := m) hj
  rwa [ov_self Z] at this
theorem hI_n3 {a : Nat} {X : bX} {m : dMem} (Z : hB TI 6 a X m) : aN m (a + 3) = some (Int32.ofNat 601) := by
  have := I_n3 (a := a) (X := X) (m := m)
  rwa [ov_self Z] at this
theorem hI_a4 {a : Nat} {X : bX} {m : dMem} (Z : hB TI 6 a X m) {j : Nat} (hj : j < 601) : aI m 0 (a + 4) (Int32.ofNat j) = some (X.1 4 j) := by
  have := I_a4 (a := a) (X := X) (m := m) hj
  rwa [ov_self Z] at this
theorem hI_n4 {a : Nat} {X : bX} {m : dMem} (Z : hB TI 6 a X m) : aN m (a + 4) = some (Int32.ofNat 601) := by
  have := I_n4 (a := a) (X := X) (m := m)
  rwa [ov_self Z] at this
theorem hI_a5 {a : Nat} {X : bX} {m : dMem} (Z : hB TI 6 a X m) {j : Nat} (hj : j < 601) : aI m 0 (a + 5) (Int32.ofNat j) = some (X.1 5 j) := by
  have := I_a5 (a := a) (X := X) (m := m) hj
  rwa [ov_self Z] at this
theorem hI_n5 {a : Nat} {X : bX} {m : dMem} (Z : hB TI 6 a X m) : aN m (a + 5) = some (Int32.ofNat 601) := by
  have := I_n5 (a := a) (X := X) (m := m)
  rwa [ov_self Z] at this
theorem hR_c0 {a : Nat} {X : bX} {m : dMem} (Z : hB TR 1 a X m) : isC m a 9 = true := by
  have := R_c0 (a := a) (X := X) (m := m)
  rwa [ov_self Z] at this
theorem hR_r0_0 {a : Nat} {X : bX} {m : dMem} (Z : hB TR 1 a X m) : gR m a 9 0 = some (a + 1) := by
  have := R_r0_0 (a := a) (X := X) (m := m)
  rwa [ov_self Z] at this
theorem hR_r0_1 {a : Nat} {X : bX} {m : dMem} (Z : hB TR 1 a X m) : gR m a 9 1 = some (a + 26) := by
  have := R_r0_1 (a := a) (X := X) (m := m)
  rwa [ov_self Z] at this
theorem hR_r0_2 {a : Nat} {X : bX} {m : dMem} (Z : hB TR 1 a X m) : gR m a 9 2 = some (a + 45) := by
  have := R_r0_2 (a := a) (X := X) (m := m)
  rwa [ov_self Z] at this
theorem hR_r0_3 {a : Nat} {X : bX} {m : dMem} (Z : hB TR 1 a X m) : gR m a 9 3 = some (a + 64) := by
  have := R_r0_3 (a := a) (X := X) (m := m)
  rwa [ov_self Z] at this
theorem hR_r0_4 {a : Nat} {X : bX} {m : dMem} (Z : hB TR 1 a X m) : gR m a 9 4 = some (a + 218) := by
  have := R_r0_4 (a := a) (X := X) (m := m)
  rwa [ov_self Z] at this
theorem hR_r0_5 {a : Nat} {X : bX} {m : dMem} (Z : hB TR 1 a X m) : gR m a 9 5 = some (a + 259) := by
  have := R_r0_5 (a := a) (X := X) (m := m)
  rwa [ov_self Z] at this
theorem hR_g0_6 {a : Nat} {X : bX} {m : dMem} (Z : hB TR 1 a X m) : gI m a 9 6 = some (X.1 0 6) := by
  have := R_g0_6 (a := a) (X := X) (m := m)
  rwa [ov_self Z] at this
theorem hH_c0 {a : Nat} {X : bX} {m : dMem} (Z : hB TH 2 a X m) : isC m a 3 = true := by
  have := H_c0 (a := a) (X := X) (m := m)
  rwa [ov_self Z] at this
theorem hH_r0_0 {a : Nat} {X : bX} {m : dMem} (Z : hB TH 2 a X m) : gR m a 3 0 = some (a + 1) := by
  have := H_r0_0 (a := a) (X := X) (m := m)
  rwa [ov_self Z] at this
theorem hH_g0_1 {a : Nat} {X : bX} {m : dMem} (Z : hB TH 2 a X m) : gI m a 3 1 = some (X.1 0 1) := by
  have := H_g0_1 (a := a) (X := X) (m := m)
  rwa [ov_self Z] at this
theorem hH_g0_2 {a : Nat} {X : bX} {m : dMem} (Z : hB TH 2 a X m) : gI m a 3 2 = some (X.1 0 2) := by
  have := H_g0_2 (a := a) (X := X) (m := m)
  rwa [ov_self Z] at this
theorem hH_q1_0 {a : Nat} {X : bX} {m : dMem} (Z : hB TH 2 a X m) : aR m 5 (a + 1) (Int32.ofNat 0) = some (a + 2) := by
  have := H_q1_0 (a := a) (X := X) (m := m)
  rwa [ov_self Z] at this
theorem hH_q1_1 {a : Nat} {X : bX} {m : dMem} (Z : hB TH 2 a X m) : aR m 5 (a + 1) (Int32.ofNat 1) = some (a + 21) := by
  have := H_q1_1 (a := a) (X := X) (m := m)
  rwa [ov_self Z] at this
theorem hH_q1_2 {a : Nat} {X : bX} {m : dMem} (Z : hB TH 2 a X m) : aR m 5 (a + 1) (Int32.ofNat 2) = some (a + 40) := by
  have := H_q1_2 (a := a) (X := X) (m := m)
  rwa [ov_self Z] at this
theorem hH_q1_3 {a : Nat} {X : bX} {m : dMem} (Z : hB TH 2 a X m) : aR m 5 (a + 1) (Int32.ofNat 3) = some (a + 59) := by
  have := H_q1_3 (a := a) (X := X) (m := m)
  rwa [ov_self Z] at this
theorem hH_q1_4 {a : Nat} {X : bX} {m : dMem} (Z : hB TH 2 a X m) : aR m 5 (a + 1) (Int32.ofNat 4) = some (a + 78) := by
  have := H_q1_4 (a := a) (X := X) (m := m)
  rwa [ov_self Z] at this
theorem hH_q1_5 {a : Nat} {X : bX} {m : dMem} (Z : hB TH 2 a X m) : aR m 5 (a + 1) (Int32.ofNat 5) = some (a + 97) := by
  have := H_q1_5 (a := a) (X := X) (m := m)
  rwa [ov_self Z] at this
theorem hH_q1_6 {a : Nat} {X : bX} {m : dMem} (Z : hB TH 2 a X m) : aR m 5 (a + 1) (Int32.ofNat 6) = some (a + 116) := by
  have := H_q1_6 (a := a) (X := X) (m := m)
  rwa [ov_self Z] at this
theorem hH_q1_7 {a : Nat} {X : bX} {m : dMem} (Z : hB TH 2 a X m) : aR m 5 (a + 1) (Int32.ofNat 7) = some (a + 135) := by
  have := H_q1_7 (a := a) (X := X) (m := m)
  rwa [ov_self Z] at this
theorem hS_c0 {a : Nat} {X : bX} {m : dMem} (Z : hB TS 3 a X m) : isC m a 8 = true := by
  have := S_c0 (a := a) (X := X) (m := m)
  rwa [ov_self Z] at this
theorem hS_r0_0 {a : Nat} {X : bX} {m : dMem} (Z : hB TS 3 a X m) : gR m a 8 0 = some (a + 1) := by
  have := S_r0_0 (a := a) (X := X) (m := m)
  rwa [ov_self Z] at this
theorem hS_r0_1 {a : Nat} {X : bX} {m : dMem} (Z : hB TS 3 a X m) : gR m a 8 1 = some (a + 2) := by
  have := S_r0_1 (a := a) (X := X) (m := m)
  rwa [ov_self Z] at this
theorem hS_q1_0 {a : Nat} {X : bX} {m : dMem} (Z : hB TS 3 a X m) : aR m 5 (a + 1) (Int32.ofNat 0) = some (a + 3) := by
  have := S_q1_0 (a := a) (X := X) (m := m)
  rwa [ov_self Z] at this
theorem hS_q1_1 {a : Nat} {X : bX} {m : dMem} (Z : hB TS 3 a X m) : aR m 5 (a + 1) (Int32.ofNat 1) = some (a + 22) := by
  have := S_q1_1 (a := a) (X := X) (m := m)
  rwa [ov_self Z] at this
theorem hS_a2 {a : Nat} {X : bX} {m : dMem} (Z : hB TS 3 a X m) {j : Nat} (hj : j < 2) : aI m 4 (a + 2) (Int32.ofNat j) = some (X.1 2 j) := by
  have := S_a2 (a := a) (X := X) (m := m) hj
  rwa [ov_self Z] at this
theorem hS_n2 {a : Nat} {X : bX} {m : dMem} (Z : hB TS 3 a X m) : aN m (a + 2) = some (Int32.ofNat 2) := by
  have := S_n2 (a := a) (X := X) (m := m)
  rwa [ov_self Z] at this
theorem kV_th (E : Nat) (m : dMem) (k : dMem → Option dRes) : kV (dTh E m) dPass k = dTh E m := rfl
theorem kI_th (E : Nat) (m : dMem) (k : Int32 → dMem → Option dRes) : kI (dTh E m) dPass k = dTh E m := rfl
theorem rng_no {n : Nat} {x : Int32} (hn : n ≤ 100000) (h : rngB 0 ((n : Int) - 1) x = false) (h0 : ¬ x < Int32.ofNat 0) : ¬ x < Int32.ofNat n := by
  rw [Int32.lt_iff_toInt_lt, nToI (by omega)] at h0 ⊢
  intro q
  unfold rngB at h
  rw [decide_eq_true (by omega), decide_eq_true (by omega)] at h
  cases h
section
variable {e : dEnv} {d x Y : Nat} {A R : bX} {h s : sV} {m : dMem}
theorem n152_1 (hR : hB TR 1 x R m) (hA : hB TA 19 (x + 26) A m) (hl : R.1 0 6 = Int32.ofNat 0) : dN e (d + 1) 152 [.ref x] m = dTh 1 m := by
  refine en152 (hR_c0 hR) fun t ht => ?_
  obtain ⟨u, rfl⟩ := fu 19 ht rfl
  simp -implicitDefEqProofs (disch := omega) only [↓reduceIte, q152_0, q152_1, hl, bd_s, kI_r, kV_r, kL_r, rZ_1, rZ_0, rZ_b, rI_ite, bI_ite, ite_tf, ite_ft, bI0, bI1, bf_ite, nAdd, nMul, nLt, nEq, nEqM, nMEq, nMLt, nLtM, nMLt0, if_true, if_false, Nat.reduceAdd, Nat.reduceMul, Nat.zero_add, Nat.add_zero, decide_eq_true_eq, decide_true, decide_false, Nat.reduceEqDiff, Nat.reduceLT, Nat.reduceLeDiff, eq_self, Bool.false_eq_true, Bool.true_eq_false, Bool.not_eq_false', Bool.not_eq_true', ite_not, hR_c0 hR, hR_r0_0 hR, hR_r0_1 hR, hR_r0_2 hR, hR_r0_3 hR, hR_r0_4 hR, hR_r0_5 hR, hR_g0_6 hR, hA_c0 hA, hA_r0_0 hA, hA_r0_1 hA, hA_r0_2 hA, hA_r0_3 hA, hA_r0_4 hA, hA_r0_5 hA, hA_r0_6 hA, hA_r0_7 hA, hA_r0_8 hA, hA_r0_9 hA, hA_r0_10 hA, hA_r0_11 hA, hA_g0_12 hA, hA_g0_13 hA, hA_g0_14 hA, hA_g0_15 hA, hA_g0_16 hA, hA_c1 hA, hA_r1_0 hA, hA_r1_1 hA, hA_r1_2 hA, hA_r1_3 hA, hA_g1_4 hA, hA_a2 hA, hA_n2 hA, hA_a3 hA, hA_n3 hA, hA_a4 hA, hA_n4 hA, hA_a5 hA, hA_n5 hA, hA_c6 hA, hA_r6_0 hA, hA_r6_1 hA, hA_g6_2 hA, hA_a7 hA, hA_n7 hA, hA_a8 hA, hA_n8 hA, hA_a9 hA, hA_n9 hA, hA_a10 hA, hA_n10 hA, hA_a11 hA, hA_n11 hA, hA_a12 hA, hA_n12 hA, hA_a13 hA, hA_n13 hA, hA_a14 hA, hA_n14 hA, hA_a15 hA, hA_n15 hA, hA_a16 hA, hA_n16 hA, hA_a17 hA, hA_n17 hA, hA_a18 hA, hA_n18 hA, kV_th, kI_th, Nat.not_lt_zero]
theorem n152_0 (hR : hB TR 1 x R m) (hA : hB TA 19 (x + 26) A m) (hl : R.1 0 6 = Int32.ofNat 1) : dN e (d + 1) 152 [.ref x] m = some (.inl none, m) := by
  refine en152 (hR_c0 hR) fun t ht => ?_
  obtain ⟨u, rfl⟩ := fu 19 ht rfl
  simp -implicitDefEqProofs (disch := omega) only [↓reduceIte, q152_0, q152_1, hl, bd_s, kI_r, kV_r, kL_r, rZ_1, rZ_0, rZ_b, rI_ite, bI_ite, ite_tf, ite_ft, bI0, bI1, bf_ite, nAdd, nMul, nLt, nEq, nEqM, nMEq, nMLt, nLtM, nMLt0, if_true, if_false, Nat.reduceAdd, Nat.reduceMul, Nat.zero_add, Nat.add_zero, decide_eq_true_eq, decide_true, decide_false, Nat.reduceEqDiff, Nat.reduceLT, Nat.reduceLeDiff, eq_self, Bool.false_eq_true, Bool.true_eq_false, Bool.not_eq_false', Bool.not_eq_true', ite_not, hR_c0 hR, hR_r0_0 hR, hR_r0_1 hR, hR_r0_2 hR, hR_r0_3 hR, hR_r0_4 hR, hR_r0_5 hR, hR_g0_6 hR, hA_c0 hA, hA_r0_0 hA, hA_r0_1 hA, hA_r0_2 hA, hA_r0_3 hA, hA_r0_4 hA, hA_r0_5 hA, hA_r0_6 hA, hA_r0_7 hA, hA_r0_8 hA, hA_r0_9 hA, hA_r0_10 hA, hA_r0_11 hA, hA_g0_12 hA, hA_g0_13 hA, hA_g0_14 hA, hA_g0_15 hA, hA_g0_16 hA, hA_c1 hA, hA_r1_0 hA, hA_r1_1 hA, hA_r1_2 hA, hA_r1_3 hA, hA_g1_4 hA, hA_a2 hA, hA_n2 hA, hA_a3 hA, hA_n3 hA, hA_a4 hA, hA_n4 hA, hA_a5 hA, hA_n5 hA, hA_c6 hA, hA_r6_0 hA, hA_r6_1 hA, hA_g6_2 hA, hA_a7 hA, hA_n7 hA, hA_a8 hA, hA_n8 hA, hA_a9 hA, hA_n9 hA, hA_a10 hA, hA_n10 hA, hA_a11 hA, hA_n11 hA, hA_a12 hA, hA_n12 hA, hA_a13 hA, hA_n13 hA, hA_a14 hA, hA_n14 hA, hA_a15 hA, hA_n15 hA, hA_a16 hA, hA_n16 hA, hA_a17 hA, hA_n17 hA, hA_a18 hA, hA_n18 hA, kV_th, kI_th, Nat.not_lt_zero]
theorem n153_1 (hR : hB TR 1 x R m) (hA : hB TA 19 (x + 26) A m) (hl : R.1 0 6 = Int32.ofNat 0) {y : Int32} : dN e (d + 2) 153 [.ref x, .int y] m = dTh 1 m := by
  refine en153 (hR_c0 hR) fun t ht => ?_
  obtain ⟨u, rfl⟩ := fu 19 ht rfl
  simp -implicitDefEqProofs (disch := omega) only [↓reduceIte, q153_0, q153_1, q153_2, n152_1 hR hA hl, bd_s, kI_r, kV_r, kL_r, rZ_1, rZ_0, rZ_b, rI_ite, bI_ite, ite_tf, ite_ft, bI0, bI1, bf_ite, nAdd, nMul, nLt, nEq, nEqM, nMEq, nMLt, nLtM, nMLt0, if_true, if_false, Nat.reduceAdd, Nat.reduceMul, Nat.zero_add, Nat.add_zero, decide_eq_true_eq, decide_true, decide_false, Nat.reduceEqDiff, Nat.reduceLT, Nat.reduceLeDiff, eq_self, Bool.false_eq_true, Bool.true_eq_false, Bool.not_eq_false', Bool.not_eq_true', ite_not, hR_c0 hR, hR_r0_0 hR, hR_r0_1 hR, hR_r0_2 hR, hR_r0_3 hR, hR_r0_4 hR, hR_r0_5 hR, hR_g0_6 hR, hA_c0 hA, hA_r0_0 hA, hA_r0_1 hA, hA_r0_2 hA, hA_r0_3 hA, hA_r0_4 hA, hA_r0_5 hA, hA_r0_6 hA, hA_r0_7 hA, hA_r0_8 hA, hA_r0_9 hA, hA_r0_10 hA, hA_r0_11 hA, hA_g0_12 hA, hA_g0_13 hA, hA_g0_14 hA, hA_g0_15 hA, hA_g0_16 hA, hA_c1 hA, hA_r1_0 hA, hA_r1_1 hA, hA_r1_2 hA, hA_r1_3 hA, hA_g1_4 hA, hA_a2 hA, hA_n2 hA, hA_a3 hA, hA_n3 hA, hA_a4 hA, hA_n4 hA, hA_a5 hA, hA_n5 hA, hA_c6 hA, hA_r6_0 hA, hA_r6_1 hA, hA_g6_2 hA, hA_a7 hA, hA_n7 hA, hA_a8 hA, hA_n8 hA, hA_a9 hA, hA_n9 hA, hA_a10 hA, hA_n10 hA, hA_a11 hA, hA_n11 hA, hA_a12 hA, hA_n12 hA, hA_a13 hA, hA_n13 hA, hA_a14 hA, hA_n14 hA, hA_a15 hA, hA_n15 hA, hA_a16 hA, hA_n16 hA, hA_a17 hA, hA_n17 hA, hA_a18 hA, hA_n18 hA, kV_th, kI_th, Nat.not_lt_zero]
theorem n153_2 (hR : hB TR 1 x R m) (hA : hB TA 19 (x + 26) A m) (hl : R.1 0 6 = Int32.ofNat 1) (Z : OKA Y A h s) {y : Int32} {n : Nat} (hn : h 2 = Int32.ofNat n) (hm : n ≤ 24) (hx : rngB 0 ((n : Int) - 1) y = false) : dN e (d + 2) 153 [.ref x, .int y] m = dTh 2 m := by
  have hc : A.1 1 4 = Int32.ofNat n := Z.1.2.2.2.1.2.2.1.trans hn
  refine en153 (hR_c0 hR) fun t ht => ?_
  obtain ⟨u, rfl⟩ := fu 9 ht rfl
  by_cases h0 : y < Int32.ofNat 0
  · simp -implicitDefEqProofs (disch := omega) only [↓reduceIte, q153_0, q153_1, q153_2, n152_0 hR hA hl, h0, bd_s, kI_r, kV_r, kL_r, rZ_1, rZ_0, rZ_b, rI_ite, bI_ite, ite_tf, ite_ft, bI0, bI1, bf_ite, nAdd, nMul, nLt, nEq, nEqM, nMEq, nMLt, nLtM, nMLt0, if_true, if_false, Nat.reduceAdd, Nat.reduceMul, Nat.zero_add, Nat.add_zero, decide_eq_true_eq, decide_true, decide_false, Nat.reduceEqDiff, Nat.reduceLT, Nat.reduceLeDiff, eq_self, Bool.false_eq_true, Bool.true_eq_false, Bool.not_eq_false', Bool.not_eq_true', ite_not, hR_c0 hR, hR_r0_0 hR, hR_r0_1 hR, hR_r0_2 hR, hR_r0_3 hR, hR_r0_4 hR, hR_r0_5 hR, hR_g0_6 hR, hA_c0 hA, hA_r0_0 hA, hA_r0_1 hA, hA_r0_2 hA, hA_r0_3 hA, hA_r0_4 hA, hA_r0_5 hA, hA_r0_6 hA, hA_r0_7 hA, hA_r0_8 hA, hA_r0_9 hA, hA_r0_10 hA, hA_r0_11 hA, hA_g0_12 hA, hA_g0_13 hA, hA_g0_14 hA, hA_g0_15 hA, hA_g0_16 hA, hA_c1 hA, hA_r1_0 hA, hA_r1_1 hA, hA_r1_2 hA, hA_r1_3 hA, hA_g1_4 hA, hA_a2 hA, hA_n2 hA, hA_a3 hA, hA_n3 hA, hA_a4 hA, hA_n4 hA, hA_a5 hA, hA_n5 hA, hA_c6 hA, hA_r6_0 hA, hA_r6_1 hA, hA_g6_2 hA, hA_a7 hA, hA_n7 hA, hA_a8 hA, hA_n8 hA, hA_a9 hA, hA_n9 hA, hA_a10 hA, hA_n10 hA, hA_a11 hA, hA_n11 hA, hA_a12 hA, hA_n12 hA, hA_a13 hA, hA_n13 hA, hA_a14 hA, hA_n14 hA, hA_a15 hA, hA_n15 hA, hA_a16 hA, hA_n16 hA, hA_a17 hA, hA_n17 hA, hA_a18 hA, hA_n18 hA, kV_th, kI_th, Nat.not_lt_zero]
  · have h1 := rng_no (by omega) hx h0
    simp -implicitDefEqProofs (disch := omega) only [↓reduceIte, q153_0, q153_1, q153_2, n152_0 hR hA hl, h0, hc, h1, bd_s, kI_r, kV_r, kL_r, rZ_1, rZ_0, rZ_b, rI_ite, bI_ite, ite_tf, ite_ft, bI0, bI1, bf_ite, nAdd, nMul, nLt, nEq, nEqM, nMEq, nMLt, nLtM, nMLt0, if_true, if_false, Nat.reduceAdd, Nat.reduceMul, Nat.zero_add, Nat.add_zero, decide_eq_true_eq, decide_true, decide_false, Nat.reduceEqDiff, Nat.reduceLT, Nat.reduceLeDiff, eq_self, Bool.false_eq_true, Bool.true_eq_false, Bool.not_eq_false', Bool.not_eq_true', ite_not, hR_c0 hR, hR_r0_0 hR, hR_r0_1 hR, hR_r0_2 hR, hR_r0_3 hR, hR_r0_4 hR, hR_r0_5 hR, hR_g0_6 hR, hA_c0 hA, hA_r0_0 hA, hA_r0_1 hA, hA_r0_2 hA, hA_r0_3 hA, hA_r0_4 hA, hA_r0_5 hA, hA_r0_6 hA, hA_r0_7 hA, hA_r0_8 hA, hA_r0_9 hA, hA_r0_10 hA, hA_r0_11 hA, hA_g0_12 hA, hA_g0_13 hA, hA_g0_14 hA, hA_g0_15 hA, hA_g0_16 hA, hA_c1 hA, hA_r1_0 hA, hA_r1_1 hA, hA_r1_2 hA, hA_r1_3 hA, hA_g1_4 hA, hA_a2 hA, hA_n2 hA, hA_a3 hA, hA_n3 hA, hA_a4 hA, hA_n4 hA, hA_a5 hA, hA_n5 hA, hA_c6 hA, hA_r6_0 hA, hA_r6_1 hA, hA_g6_2 hA, hA_a7 hA, hA_n7 hA, hA_a8 hA, hA_n8 hA, hA_a9 hA, hA_n9 hA, hA_a10 hA, hA_n10 hA, hA_a11 hA, hA_n11 hA, hA_a12 hA, hA_n12 hA, hA_a13 hA, hA_n13 hA, hA_a14 hA, hA_n14 hA, hA_a15 hA, hA_n15 hA, hA_a16 hA, hA_n16 hA, hA_a17 hA, hA_n17 hA, hA_a18 hA, hA_n18 hA, kV_th, kI_th, Nat.not_lt_zero]
theorem n153_0 (hR : hB TR 1 x R m) (hA : hB TA 19 (x + 26) A m) (hl : R.1 0 6 = Int32.ofNat 1) (Z : OKA Y A h s) {k n : Nat} (hn : h 2 = Int32.ofNat n) (hm : n ≤ 24) (hk : k < n) : dN e (d + 2) 153 [.ref x, .int (Int32.ofNat k)] m = some (.inl none, m) := by
  have hc : A.1 1 4 = Int32.ofNat n := Z.1.2.2.2.1.2.2.1.trans hn
  refine en153 (hR_c0 hR) fun t ht => ?_
  obtain ⟨u, rfl⟩ := fu 9 ht rfl
  simp -implicitDefEqProofs (disch := omega) only [↓reduceIte, q153_0, q153_1, q153_2, n152_0 hR hA hl, hc, hk, bd_s, kI_r, kV_r, kL_r, rZ_1, rZ_0, rZ_b, rI_ite, bI_ite, ite_tf, ite_ft, bI0, bI1, bf_ite, nAdd, nMul, nLt, nEq, nEqM, nMEq, nMLt, nLtM, nMLt0, if_true, if_false, Nat.reduceAdd, Nat.reduceMul, Nat.zero_add, Nat.add_zero, decide_eq_true_eq, decide_true, decide_false, Nat.reduceEqDiff, Nat.reduceLT, Nat.reduceLeDiff, eq_self, Bool.false_eq_true, Bool.true_eq_false, Bool.not_eq_false', Bool.not_eq_true', ite_not, hR_c0 hR, hR_r0_0 hR, hR_r0_1 hR, hR_r0_2 hR, hR_r0_3 hR, hR_r0_4 hR, hR_r0_5 hR, hR_g0_6 hR, hA_c0 hA, hA_r0_0 hA, hA_r0_1 hA, hA_r0_2 hA, hA_r0_3 hA, hA_r0_4 hA, hA_r0_5 hA, hA_r0_6 hA, hA_r0_7 hA, hA_r0_8 hA, hA_r0_9 hA, hA_r0_10 hA, hA_r0_11 hA, hA_g0_12 hA, hA_g0_13 hA, hA_g0_14 hA, hA_g0_15 hA, hA_g0_16 hA, hA_c1 hA, hA_r1_0 hA, hA_r1_1 hA, hA_r1_2 hA, hA_r1_3 hA, hA_g1_4 hA, hA_a2 hA, hA_n2 hA, hA_a3 hA, hA_n3 hA, hA_a4 hA, hA_n4 hA, hA_a5 hA, hA_n5 hA, hA_c6 hA, hA_r6_0 hA, hA_r6_1 hA, hA_g6_2 hA, hA_a7 hA, hA_n7 hA, hA_a8 hA, hA_n8 hA, hA_a9 hA, hA_n9 hA, hA_a10 hA, hA_n10 hA, hA_a11 hA, hA_n11 hA, hA_a12 hA, hA_n12 hA, hA_a13 hA, hA_n13 hA, hA_a14 hA, hA_n14 hA, hA_a15 hA, hA_n15 hA, hA_a16 hA, hA_n16 hA, hA_a17 hA, hA_n17 hA, hA_a18 hA, hA_n18 hA, kV_th, kI_th, Nat.not_lt_zero]
theorem n154_1 (hR : hB TR 1 x R m) (hA : hB TA 19 (x + 26) A m) (hl : R.1 0 6 = Int32.ofNat 0) {y : Int32} : dN e (d + 2) 154 [.ref x, .int y] m = dTh 1 m := by
  refine en154 (hR_c0 hR) fun t ht => ?_
  obtain ⟨u, rfl⟩ := fu 19 ht rfl
  simp -implicitDefEqProofs (disch := omega) only [↓reduceIte, q154_0, q154_1, q154_2, n152_1 hR hA hl, bd_s, kI_r, kV_r, kL_r, rZ_1, rZ_0, rZ_b, rI_ite, bI_ite, ite_tf, ite_ft, bI0, bI1, bf_ite, nAdd, nMul, nLt, nEq, nEqM, nMEq, nMLt, nLtM, nMLt0, if_true, if_false, Nat.reduceAdd, Nat.reduceMul, Nat.zero_add, Nat.add_zero, decide_eq_true_eq, decide_true, decide_false, Nat.reduceEqDiff, Nat.reduceLT, Nat.reduceLeDiff, eq_self, Bool.false_eq_true, Bool.true_eq_false, Bool.not_eq_false', Bool.not_eq_true', ite_not, hR_c0 hR, hR_r0_0 hR, hR_r0_1 hR, hR_r0_2 hR, hR_r0_3 hR, hR_r0_4 hR, hR_r0_5 hR, hR_g0_6 hR, hA_c0 hA, hA_r0_0 hA, hA_r0_1 hA, hA_r0_2 hA, hA_r0_3 hA, hA_r0_4 hA, hA_r0_5 hA, hA_r0_6 hA, hA_r0_7 hA, hA_r0_8 hA, hA_r0_9 hA, hA_r0_10 hA, hA_r0_11 hA, hA_g0_12 hA, hA_g0_13 hA, hA_g0_14 hA, hA_g0_15 hA, hA_g0_16 hA, hA_c1 hA, hA_r1_0 hA, hA_r1_1 hA, hA_r1_2 hA, hA_r1_3 hA, hA_g1_4 hA, hA_a2 hA, hA_n2 hA, hA_a3 hA, hA_n3 hA, hA_a4 hA, hA_n4 hA, hA_a5 hA, hA_n5 hA, hA_c6 hA, hA_r6_0 hA, hA_r6_1 hA, hA_g6_2 hA, hA_a7 hA, hA_n7 hA, hA_a8 hA, hA_n8 hA, hA_a9 hA, hA_n9 hA, hA_a10 hA, hA_n10 hA, hA_a11 hA, hA_n11 hA, hA_a12 hA, hA_n12 hA, hA_a13 hA, hA_n13 hA, hA_a14 hA, hA_n14 hA, hA_a15 hA, hA_n15 hA, hA_a16 hA, hA_n16 hA, hA_a17 hA, hA_n17 hA, hA_a18 hA, hA_n18 hA, kV_th, kI_th, Nat.not_lt_zero]
theorem n154_2 (hR : hB TR 1 x R m) (hA : hB TA 19 (x + 26) A m) (hl : R.1 0 6 = Int32.ofNat 1) (Z : OKA Y A h s) {y : Int32} {n : Nat} (hn : s 1 = Int32.ofNat n) (hm : n ≤ 24) (hx : rngB 0 ((n : Int) - 1) y = false) : dN e (d + 2) 154 [.ref x, .int y] m = dTh 2 m := by
  have hc : A.1 0 13 = Int32.ofNat n := Z.1.2.1.trans hn
  refine en154 (hR_c0 hR) fun t ht => ?_
  obtain ⟨u, rfl⟩ := fu 9 ht rfl
  by_cases h0 : y < Int32.ofNat 0
  · simp -implicitDefEqProofs (disch := omega) only [↓reduceIte, q154_0, q154_1, q154_2, n152_0 hR hA hl, h0, bd_s, kI_r, kV_r, kL_r, rZ_1, rZ_0, rZ_b, rI_ite, bI_ite, ite_tf, ite_ft, bI0, bI1, bf_ite, nAdd, nMul, nLt, nEq, nEqM, nMEq, nMLt, nLtM, nMLt0, if_true, if_false, Nat.reduceAdd, Nat.reduceMul, Nat.zero_add, Nat.add_zero, decide_eq_true_eq, decide_true, decide_false, Nat.reduceEqDiff, Nat.reduceLT, Nat.reduceLeDiff, eq_self, Bool.false_eq_true, Bool.true_eq_false, Bool.not_eq_false', Bool.not_eq_true', ite_not, hR_c0 hR, hR_r0_0 hR, hR_r0_1 hR, hR_r0_2 hR, hR_r0_3 hR, hR_r0_4 hR, hR_r0_5 hR, hR_g0_6 hR, hA_c0 hA, hA_r0_0 hA, hA_r0_1 hA, hA_r0_2 hA, hA_r0_3 hA, hA_r0_4 hA, hA_r0_5 hA, hA_r0_6 hA, hA_r0_7 hA, hA_r0_8 hA, hA_r0_9 hA, hA_r0_10 hA, hA_r0_11 hA, hA_g0_12 hA, hA_g0_13 hA, hA_g0_14 hA, hA_g0_15 hA, hA_g0_16 hA, hA_c1 hA, hA_r1_0 hA, hA_r1_1 hA, hA_r1_2 hA, hA_r1_3 hA, hA_g1_4 hA, hA_a2 hA, hA_n2 hA, hA_a3 hA, hA_n3 hA, hA_a4 hA, hA_n4 hA, hA_a5 hA, hA_n5 hA, hA_c6 hA, hA_r6_0 hA, hA_r6_1 hA, hA_g6_2 hA, hA_a7 hA, hA_n7 hA, hA_a8 hA, hA_n8 hA, hA_a9 hA, hA_n9 hA, hA_a10 hA, hA_n10 hA, hA_a11 hA, hA_n11 hA, hA_a12 hA, hA_n12 hA, hA_a13 hA, hA_n13 hA, hA_a14 hA, hA_n14 hA, hA_a15 hA, hA_n15 hA, hA_a16 hA, hA_n16 hA, hA_a17 hA, hA_n17 hA, hA_a18 hA, hA_n18 hA, kV_th, kI_th, Nat.not_lt_zero]
  · have h1 := rng_no (by omega) hx h0
    simp -implicitDefEqProofs (disch := omega) only [↓reduceIte, q154_0, q154_1, q154_2, n152_0 hR hA hl, h0, hc, h1, bd_s, kI_r, kV_r, kL_r, rZ_1, rZ_0, rZ_b, rI_ite, bI_ite, ite_tf, ite_ft, bI0, bI1, bf_ite, nAdd, nMul, nLt, nEq, nEqM, nMEq, nMLt, nLtM, nMLt0, if_true, if_false, Nat.reduceAdd, Nat.reduceMul, Nat.zero_add, Nat.add_zero, decide_eq_true_eq, decide_true, decide_false, Nat.reduceEqDiff, Nat.reduceLT, Nat.reduceLeDiff, eq_self, Bool.false_eq_true, Bool.true_eq_false, Bool.not_eq_false', Bool.not_eq_true', ite_not, hR_c0 hR, hR_r0_0 hR, hR_r0_1 hR, hR_r0_2 hR, hR_r0_3 hR, hR_r0_4 hR, hR_r0_5 hR, hR_g0_6 hR, hA_c0 hA, hA_r0_0 hA, hA_r0_1 hA, hA_r0_2 hA, hA_r0_3 hA, hA_r0_4 hA, hA_r0_5 hA, hA_r0_6 hA, hA_r0_7 hA, hA_r0_8 hA, hA_r0_9 hA, hA_r0_10 hA, hA_r0_11 hA, hA_g0_12 hA, hA_g0_13 hA, hA_g0_14 hA, hA_g0_15 hA, hA_g0_16 hA, hA_c1 hA, hA_r1_0 hA, hA_r1_1 hA, hA_r1_2 hA, hA_r1_3 hA, hA_g1_4 hA, hA_a2 hA, hA_n2 hA, hA_a3 hA, hA_n3 hA, hA_a4 hA, hA_n4 hA, hA_a5 hA, hA_n5 hA, hA_c6 hA, hA_r6_0 hA, hA_r6_1 hA, hA_g6_2 hA, hA_a7 hA, hA_n7 hA, hA_a8 hA, hA_n8 hA, hA_a9 hA, hA_n9 hA, hA_a10 hA, hA_n10 hA, hA_a11 hA, hA_n11 hA, hA_a12 hA, hA_n12 hA, hA_a13 hA, hA_n13 hA, hA_a14 hA, hA_n14 hA, hA_a15 hA, hA_n15 hA, hA_a16 hA, hA_n16 hA, hA_a17 hA, hA_n17 hA, hA_a18 hA, hA_n18 hA, kV_th, kI_th, Nat.not_lt_zero]
theorem n154_0 (hR : hB TR 1 x R m) (hA : hB TA 19 (x + 26) A m) (hl : R.1 0 6 = Int32.ofNat 1) (Z : OKA Y A h s) {k n : Nat} (hn : s 1 = Int32.ofNat n) (hm : n ≤ 24) (hk : k < n) : dN e (d + 2) 154 [.ref x, .int (Int32.ofNat k)] m = some (.inl none, m) := by
  have hc : A.1 0 13 = Int32.ofNat n := Z.1.2.1.trans hn
  refine en154 (hR_c0 hR) fun t ht => ?_
  obtain ⟨u, rfl⟩ := fu 9 ht rfl
  simp -implicitDefEqProofs (disch := omega) only [↓reduceIte, q154_0, q154_1, q154_2, n152_0 hR hA hl, hc, hk, bd_s, kI_r, kV_r, kL_r, rZ_1, rZ_0, rZ_b, rI_ite, bI_ite, ite_tf, ite_ft, bI0, bI1, bf_ite, nAdd, nMul, nLt, nEq, nEqM, nMEq, nMLt, nLtM, nMLt0, if_true, if_false, Nat.reduceAdd, Nat.reduceMul, Nat.zero_add, Nat.add_zero, decide_eq_true_eq, decide_true, decide_false, Nat.reduceEqDiff, Nat.reduceLT, Nat.reduceLeDiff, eq_self, Bool.false_eq_true, Bool.true_eq_false, Bool.not_eq_false', Bool.not_eq_true', ite_not, hR_c0 hR, hR_r0_0 hR, hR_r0_1 hR, hR_r0_2 hR, hR_r0_3 hR, hR_r0_4 hR, hR_r0_5 hR, hR_g0_6 hR, hA_c0 hA, hA_r0_0 hA, hA_r0_1 hA, hA_r0_2 hA, hA_r0_3 hA, hA_r0_4 hA, hA_r0_5 hA, hA_r0_6 hA, hA_r0_7 hA, hA_r0_8 hA, hA_r0_9 hA, hA_r0_10 hA, hA_r0_11 hA, hA_g0_12 hA, hA_g0_13 hA, hA_g0_14 hA, hA_g0_15 hA, hA_g0_16 hA, hA_c1 hA, hA_r1_0 hA, hA_r1_1 hA, hA_r1_2 hA, hA_r1_3 hA, hA_g1_4 hA, hA_a2 hA, hA_n2 hA, hA_a3 hA, hA_n3 hA, hA_a4 hA, hA_n4 hA, hA_a5 hA, hA_n5 hA, hA_c6 hA, hA_r6_0 hA, hA_r6_1 hA, hA_g6_2 hA, hA_a7 hA, hA_n7 hA, hA_a8 hA, hA_n8 hA, hA_a9 hA, hA_n9 hA, hA_a10 hA, hA_n10 hA, hA_a11 hA, hA_n11 hA, hA_a12 hA, hA_n12 hA, hA_a13 hA, hA_n13 hA, hA_a14 hA, hA_n14 hA, hA_a15 hA, hA_n15 hA, hA_a16 hA, hA_n16 hA, hA_a17 hA, hA_n17 hA, hA_a18 hA, hA_n18 hA, kV_th, kI_th, Nat.not_lt_zero]
theorem n155_1 (hR : hB TR 1 x R m) (hA : hB TA 19 (x + 26) A m) (hl : R.1 0 6 = Int32.ofNat 0) {y : Int32} : dN e (d + 2) 155 [.ref x, .int y] m = dTh 1 m := by
  refine en155 (hR_c0 hR) fun t ht => ?_
  obtain ⟨u, rfl⟩ := fu 19 ht rfl
  simp -implicitDefEqProofs (disch := omega) only [↓reduceIte, q155_0, q155_1, q155_2, n152_1 hR hA hl, bd_s, kI_r, kV_r, kL_r, rZ_1, rZ_0, rZ_b, rI_ite, bI_ite, ite_tf, ite_ft, bI0, bI1, bf_ite, nAdd, nMul, nLt, nEq, nEqM, nMEq, nMLt, nLtM, nMLt0, if_true, if_false, Nat.reduceAdd, Nat.reduceMul, Nat.zero_add, Nat.add_zero, decide_eq_true_eq, decide_true, decide_false, Nat.reduceEqDiff, Nat.reduceLT, Nat.reduceLeDiff, eq_self, Bool.false_eq_true, Bool.true_eq_false, Bool.not_eq_false', Bool.not_eq_true', ite_not, hR_c0 hR, hR_r0_0 hR, hR_r0_1 hR, hR_r0_2 hR, hR_r0_3 hR, hR_r0_4 hR, hR_r0_5 hR, hR_g0_6 hR, hA_c0 hA, hA_r0_0 hA, hA_r0_1 hA, hA_r0_2 hA, hA_r0_3 hA, hA_r0_4 hA, hA_r0_5 hA, hA_r0_6 hA, hA_r0_7 hA, hA_r0_8 hA, hA_r0_9 hA, hA_r0_10 hA, hA_r0_11 hA, hA_g0_12 hA, hA_g0_13 hA, hA_g0_14 hA, hA_g0_15 hA, hA_g0_16 hA, hA_c1 hA, hA_r1_0 hA, hA_r1_1 hA, hA_r1_2 hA, hA_r1_3 hA, hA_g1_4 hA, hA_a2 hA, hA_n2 hA, hA_a3 hA, hA_n3 hA, hA_a4 hA, hA_n4 hA, hA_a5 hA, hA_n5 hA, hA_c6 hA, hA_r6_0 hA, hA_r6_1 hA, hA_g6_2 hA, hA_a7 hA, hA_n7 hA, hA_a8 hA, hA_n8 hA, hA_a9 hA, hA_n9 hA, hA_a10 hA, hA_n10 hA, hA_a11 hA, hA_n11 hA, hA_a12 hA, hA_n12 hA, hA_a13 hA, hA_n13 hA, hA_a14 hA, hA_n14 hA, hA_a15 hA, hA_n15 hA, hA_a16 hA, hA_n16 hA, hA_a17 hA, hA_n17 hA, hA_a18 hA, hA_n18 hA, kV_th, kI_th, Nat.not_lt_zero]
theorem n155_2 (hR : hB TR 1 x R m) (hA : hB TA 19 (x + 26) A m) (hl : R.1 0 6 = Int32.ofNat 1) (Z : OKA Y A h s) {y : Int32} {n : Nat} (hn : h 3 = Int32.ofNat n) (hm : n ≤ 24) (hx : rngB 0 ((n : Int) - 1) y = false) : dN e (d + 2) 155 [.ref x, .int y] m = dTh 2 m := by
  have hc : A.1 6 2 = Int32.ofNat n := Z.1.2.2.2.1.2.2.2.1.trans hn
  refine en155 (hR_c0 hR) fun t ht => ?_
  obtain ⟨u, rfl⟩ := fu 9 ht rfl
  by_cases h0 : y < Int32.ofNat 0
  · simp -implicitDefEqProofs (disch := omega) only [↓reduceIte, q155_0, q155_1, q155_2, n152_0 hR hA hl, h0, bd_s, kI_r, kV_r, kL_r, rZ_1, rZ_0, rZ_b, rI_ite, bI_ite, ite_tf, ite_ft, bI0, bI1, bf_ite, nAdd, nMul, nLt, nEq, nEqM, nMEq, nMLt, nLtM, nMLt0, if_true, if_false, Nat.reduceAdd, Nat.reduceMul, Nat.zero_add, Nat.add_zero, decide_eq_true_eq, decide_true, decide_false, Nat.reduceEqDiff, Nat.reduceLT, Nat.reduceLeDiff, eq_self, Bool.false_eq_true, Bool.true_eq_false, Bool.not_eq_false', Bool.not_eq_true', ite_not, hR_c0 hR, hR_r0_0 hR, hR_r0_1 hR, hR_r0_2 hR, hR_r0_3 hR, hR_r0_4 hR, hR_r0_5 hR, hR_g0_6 hR, hA_c0 hA, hA_r0_0 hA, hA_r0_1 hA, hA_r0_2 hA, hA_r0_3 hA, hA_r0_4 hA, hA_r0_5 hA, hA_r0_6 hA, hA_r0_7 hA, hA_r0_8 hA, hA_r0_9 hA, hA_r0_10 hA, hA_r0_11 hA, hA_g0_12 hA, hA_g0_13 hA, hA_g0_14 hA, hA_g0_15 hA, hA_g0_16 hA, hA_c1 hA, hA_r1_0 hA, hA_r1_1 hA, hA_r1_2 hA, hA_r1_3 hA, hA_g1_4 hA, hA_a2 hA, hA_n2 hA, hA_a3 hA, hA_n3 hA, hA_a4 hA, hA_n4 hA, hA_a5 hA, hA_n5 hA, hA_c6 hA, hA_r6_0 hA, hA_r6_1 hA, hA_g6_2 hA, hA_a7 hA, hA_n7 hA, hA_a8 hA, hA_n8 hA, hA_a9 hA, hA_n9 hA, hA_a10 hA, hA_n10 hA, hA_a11 hA, hA_n11 hA, hA_a12 hA, hA_n12 hA, hA_a13 hA, hA_n13 hA, hA_a14 hA, hA_n14 hA, hA_a15 hA, hA_n15 hA, hA_a16 hA, hA_n16 hA, hA_a17 hA, hA_n17 hA, hA_a18 hA, hA_n18 hA, kV_th, kI_th, Nat.not_lt_zero]
  · have h1 := rng_no (by omega) hx h0
    simp -implicitDefEqProofs (disch := omega) only [↓reduceIte, q155_0, q155_1, q155_2, n152_0 hR hA hl, h0, hc, h1, bd_s, kI_r, kV_r, kL_r, rZ_1, rZ_0, rZ_b, rI_ite, bI_ite, ite_tf, ite_ft, bI0, bI1, bf_ite, nAdd, nMul, nLt, nEq, nEqM, nMEq, nMLt, nLtM, nMLt0, if_true, if_false, Nat.reduceAdd, Nat.reduceMul, Nat.zero_add, Nat.add_zero, decide_eq_true_eq, decide_true, decide_false, Nat.reduceEqDiff, Nat.reduceLT, Nat.reduceLeDiff, eq_self, Bool.false_eq_true, Bool.true_eq_false, Bool.not_eq_false', Bool.not_eq_true', ite_not, hR_c0 hR, hR_r0_0 hR, hR_r0_1 hR, hR_r0_2 hR, hR_r0_3 hR, hR_r0_4 hR, hR_r0_5 hR, hR_g0_6 hR, hA_c0 hA, hA_r0_0 hA, hA_r0_1 hA, hA_r0_2 hA, hA_r0_3 hA, hA_r0_4 hA, hA_r0_5 hA, hA_r0_6 hA, hA_r0_7 hA, hA_r0_8 hA, hA_r0_9 hA, hA_r0_10 hA, hA_r0_11 hA, hA_g0_12 hA, hA_g0_13 hA, hA_g0_14 hA, hA_g0_15 hA, hA_g0_16 hA, hA_c1 hA, hA_r1_0 hA, hA_r1_1 hA, hA_r1_2 hA, hA_r1_3 hA, hA_g1_4 hA, hA_a2 hA, hA_n2 hA, hA_a3 hA, hA_n3 hA, hA_a4 hA, hA_n4 hA, hA_a5 hA, hA_n5 hA, hA_c6 hA, hA_r6_0 hA, hA_r6_1 hA, hA_g6_2 hA, hA_a7 hA, hA_n7 hA, hA_a8 hA, hA_n8 hA, hA_a9 hA, hA_n9 hA, hA_a10 hA, hA_n10 hA, hA_a11 hA, hA_n11 hA, hA_a12 hA, hA_n12 hA, hA_a13 hA, hA_n13 hA, hA_a14 hA, hA_n14 hA, hA_a15 hA, hA_n15 hA, hA_a16 hA, hA_n16 hA, hA_a17 hA, hA_n17 hA, hA_a18 hA, hA_n18 hA, kV_th, kI_th, Nat.not_lt_zero]
theorem n155_0 (hR : hB TR 1 x R m) (hA : hB TA 19 (x + 26) A m) (hl : R.1 0 6 = Int32.ofNat 1) (Z : OKA Y A h s) {k n : Nat} (hn : h 3 = Int32.ofNat n) (hm : n ≤ 24) (hk : k < n) : dN e (d + 2) 155 [.ref x, .int (Int32.ofNat k)] m = some (.inl none, m) := by
  have hc : A.1 6 2 = Int32.ofNat n := Z.1.2.2.2.1.2.2.2.1.trans hn
  refine en155 (hR_c0 hR) fun t ht => ?_
  obtain ⟨u, rfl⟩ := fu 9 ht rfl
  simp -implicitDefEqProofs (disch := omega) only [↓reduceIte, q155_0, q155_1, q155_2, n152_0 hR hA hl, hc, hk, bd_s, kI_r, kV_r, kL_r, rZ_1, rZ_0, rZ_b, rI_ite, bI_ite, ite_tf, ite_ft, bI0, bI1, bf_ite, nAdd, nMul, nLt, nEq, nEqM, nMEq, nMLt, nLtM, nMLt0, if_true, if_false, Nat.reduceAdd, Nat.reduceMul, Nat.zero_add, Nat.add_zero, decide_eq_true_eq, decide_true, decide_false, Nat.reduceEqDiff, Nat.reduceLT, Nat.reduceLeDiff, eq_self, Bool.false_eq_true, Bool.true_eq_false, Bool.not_eq_false', Bool.not_eq_true', ite_not, hR_c0 hR, hR_r0_0 hR, hR_r0_1 hR, hR_r0_2 hR, hR_r0_3 hR, hR_r0_4 hR, hR_r0_5 hR, hR_g0_6 hR, hA_c0 hA, hA_r0_0 hA, hA_r0_1 hA, hA_r0_2 hA, hA_r0_3 hA, hA_r0_4 hA, hA_r0_5 hA, hA_r0_6 hA, hA_r0_7 hA, hA_r0_8 hA, hA_r0_9 hA, hA_r0_10 hA, hA_r0_11 hA, hA_g0_12 hA, hA_g0_13 hA, hA_g0_14 hA, hA_g0_15 hA, hA_g0_16 hA, hA_c1 hA, hA_r1_0 hA, hA_r1_1 hA, hA_r1_2 hA, hA_r1_3 hA, hA_g1_4 hA, hA_a2 hA, hA_n2 hA, hA_a3 hA, hA_n3 hA, hA_a4 hA, hA_n4 hA, hA_a5 hA, hA_n5 hA, hA_c6 hA, hA_r6_0 hA, hA_r6_1 hA, hA_g6_2 hA, hA_a7 hA, hA_n7 hA, hA_a8 hA, hA_n8 hA, hA_a9 hA, hA_n9 hA, hA_a10 hA, hA_n10 hA, hA_a11 hA, hA_n11 hA, hA_a12 hA, hA_n12 hA, hA_a13 hA, hA_n13 hA, hA_a14 hA, hA_n14 hA, hA_a15 hA, hA_n15 hA, hA_a16 hA, hA_n16 hA, hA_a17 hA, hA_n17 hA, hA_a18 hA, hA_n18 hA, kV_th, kI_th, Nat.not_lt_zero]
theorem a109_1 (hR : hB TR 1 x R m) (hA : hB TA 19 (x + 26) A m) (hl : R.1 0 6 = Int32.ofNat 0) {y : Int32} : dN e (d + 5) 109 [.ref x, .int y] m = dTh 1 m := by
  refine en109 (hR_c0 hR) fun t ht => ?_
  obtain ⟨u, rfl⟩ := fu 19 ht rfl
  simp -implicitDefEqProofs (disch := omega) only [↓reduceIte, q109_0, n154_1 hR hA hl, bd_s, kI_r, kV_r, kL_r, rZ_1, rZ_0, rZ_b, rI_ite, bI_ite, ite_tf, ite_ft, bI0, bI1, bf_ite, nAdd, nMul, nLt, nEq, nEqM, nMEq, nMLt, nLtM, nMLt0, if_true, if_false, Nat.reduceAdd, Nat.reduceMul, Nat.zero_add, Nat.add_zero, decide_eq_true_eq, decide_true, decide_false, Nat.reduceEqDiff, Nat.reduceLT, Nat.reduceLeDiff, eq_self, Bool.false_eq_true, Bool.true_eq_false, Bool.not_eq_false', Bool.not_eq_true', ite_not, hR_c0 hR, hR_r0_0 hR, hR_r0_1 hR, hR_r0_2 hR, hR_r0_3 hR, hR_r0_4 hR, hR_r0_5 hR, hR_g0_6 hR, hA_c0 hA, hA_r0_0 hA, hA_r0_1 hA, hA_r0_2 hA, hA_r0_3 hA, hA_r0_4 hA, hA_r0_5 hA, hA_r0_6 hA, hA_r0_7 hA, hA_r0_8 hA, hA_r0_9 hA, hA_r0_10 hA, hA_r0_11 hA, hA_g0_12 hA, hA_g0_13 hA, hA_g0_14 hA, hA_g0_15 hA, hA_g0_16 hA, hA_c1 hA, hA_r1_0 hA, hA_r1_1 hA, hA_r1_2 hA, hA_r1_3 hA, hA_g1_4 hA, hA_a2 hA, hA_n2 hA, hA_a3 hA, hA_n3 hA, hA_a4 hA, hA_n4 hA, hA_a5 hA, hA_n5 hA, hA_c6 hA, hA_r6_0 hA, hA_r6_1 hA, hA_g6_2 hA, hA_a7 hA, hA_n7 hA, hA_a8 hA, hA_n8 hA, hA_a9 hA, hA_n9 hA, hA_a10 hA, hA_n10 hA, hA_a11 hA, hA_n11 hA, hA_a12 hA, hA_n12 hA, hA_a13 hA, hA_n13 hA, hA_a14 hA, hA_n14 hA, hA_a15 hA, hA_n15 hA, hA_a16 hA, hA_n16 hA, hA_a17 hA, hA_n17 hA, hA_a18 hA, hA_n18 hA, kV_th, kI_th, Nat.not_lt_zero]
theorem a109_2 (hR : hB TR 1 x R m) (hA : hB TA 19 (x + 26) A m) (hl : R.1 0 6 = Int32.ofNat 1) (Z : OKA Y A h s) {y : Int32} {n : Nat} (hn : s 1 = Int32.ofNat n) (hm : n ≤ 24) (hx : rngB 0 ((n : Int) - 1) y = false) : dN e (d + 5) 109 [.ref x, .int y] m = dTh 2 m := by
  refine en109 (hR_c0 hR) fun t ht => ?_
  obtain ⟨u, rfl⟩ := fu 9 ht rfl
  simp -implicitDefEqProofs (disch := omega) only [↓reduceIte, q109_0, n154_2 hR hA hl Z hn hm hx, bd_s, kI_r, kV_r, kL_r, rZ_1, rZ_0, rZ_b, rI_ite, bI_ite, ite_tf, ite_ft, bI0, bI1, bf_ite, nAdd, nMul, nLt, nEq, nEqM, nMEq, nMLt, nLtM, nMLt0, if_true, if_false, Nat.reduceAdd, Nat.reduceMul, Nat.zero_add, Nat.add_zero, decide_eq_true_eq, decide_true, decide_false, Nat.reduceEqDiff, Nat.reduceLT, Nat.reduceLeDiff, eq_self, Bool.false_eq_true, Bool.true_eq_false, Bool.not_eq_false', Bool.not_eq_true', ite_not, hR_c0 hR, hR_r0_0 hR, hR_r0_1 hR, hR_r0_2 hR, hR_r0_3 hR, hR_r0_4 hR, hR_r0_5 hR, hR_g0_6 hR, hA_c0 hA, hA_r0_0 hA, hA_r0_1 hA, hA_r0_2 hA, hA_r0_3 hA, hA_r0_4 hA, hA_r0_5 hA, hA_r0_6 hA, hA_r0_7 hA, hA_r0_8 hA, hA_r0_9 hA, hA_r0_10 hA, hA_r0_11 hA, hA_g0_12 hA, hA_g0_13 hA, hA_g0_14 hA, hA_g0_15 hA, hA_g0_16 hA, hA_c1 hA, hA_r1_0 hA, hA_r1_1 hA, hA_r1_2 hA, hA_r1_3 hA, hA_g1_4 hA, hA_a2 hA, hA_n2 hA, hA_a3 hA, hA_n3 hA, hA_a4 hA, hA_n4 hA, hA_a5 hA, hA_n5 hA, hA_c6 hA, hA_r6_0 hA, hA_r6_1 hA, hA_g6_2 hA, hA_a7 hA, hA_n7 hA, hA_a8 hA, hA_n8 hA, hA_a9 hA, hA_n9 hA, hA_a10 hA, hA_n10 hA, hA_a11 hA, hA_n11 hA, hA_a12 hA, hA_n12 hA, hA_a13 hA, hA_n13 hA, hA_a14 hA, hA_n14 hA, hA_a15 hA, hA_n15 hA, hA_a16 hA, hA_n16 hA, hA_a17 hA, hA_n17 hA, hA_a18 hA, hA_n18 hA, kV_th, kI_th, Nat.not_lt_zero]
theorem a109_0 (hR : hB TR 1 x R m) (hA : hB TA 19 (x + 26) A m) (hl : R.1 0 6 = Int32.ofNat 1) (Z : OKA Y A h s) {k n : Nat} (hn : s 1 = Int32.ofNat n) (hm : n ≤ 24) (hk : k < n) : dN e (d + 5) 109 [.ref x, .int (Int32.ofNat k)] m = rI (bx s k 0) m := by
  have hk2 : k < nbS s := by unfold nbS; rw [hn, nN_o (by omega)]; exact hk
  obtain ⟨⟨r0, r1, r2, r4, r3, r5, r6, r8, r9⟩, wb, hk24⟩ := Z.box hk2
  refine en109 (hR_c0 hR) fun t ht => ?_
  obtain ⟨u, rfl⟩ := fu 9 ht rfl
  simp -implicitDefEqProofs (disch := omega) only [↓reduceIte, q109_0, n154_0 hR hA hl Z hn hm hk, r0, bd_s, kI_r, kV_r, kL_r, rZ_1, rZ_0, rZ_b, rI_ite, bI_ite, ite_tf, ite_ft, bI0, bI1, bf_ite, nAdd, nMul, nLt, nEq, nEqM, nMEq, nMLt, nLtM, nMLt0, if_true, if_false, Nat.reduceAdd, Nat.reduceMul, Nat.zero_add, Nat.add_zero, decide_eq_true_eq, decide_true, decide_false, Nat.reduceEqDiff, Nat.reduceLT, Nat.reduceLeDiff, eq_self, Bool.false_eq_true, Bool.true_eq_false, Bool.not_eq_false', Bool.not_eq_true', ite_not, hR_c0 hR, hR_r0_0 hR, hR_r0_1 hR, hR_r0_2 hR, hR_r0_3 hR, hR_r0_4 hR, hR_r0_5 hR, hR_g0_6 hR, hA_c0 hA, hA_r0_0 hA, hA_r0_1 hA, hA_r0_2 hA, hA_r0_3 hA, hA_r0_4 hA, hA_r0_5 hA, hA_r0_6 hA, hA_r0_7 hA, hA_r0_8 hA, hA_r0_9 hA, hA_r0_10 hA, hA_r0_11 hA, hA_g0_12 hA, hA_g0_13 hA, hA_g0_14 hA, hA_g0_15 hA, hA_g0_16 hA, hA_c1 hA, hA_r1_0 hA, hA_r1_1 hA, hA_r1_2 hA, hA_r1_3 hA, hA_g1_4 hA, hA_a2 hA, hA_n2 hA, hA_a3 hA, hA_n3 hA, hA_a4 hA, hA_n4 hA, hA_a5 hA, hA_n5 hA, hA_c6 hA, hA_r6_0 hA, hA_r6_1 hA, hA_g6_2 hA, hA_a7 hA, hA_n7 hA, hA_a8 hA, hA_n8 hA, hA_a9 hA, hA_n9 hA, hA_a10 hA, hA_n10 hA, hA_a11 hA, hA_n11 hA, hA_a12 hA, hA_n12 hA, hA_a13 hA, hA_n13 hA, hA_a14 hA, hA_n14 hA, hA_a15 hA, hA_n15 hA, hA_a16 hA, hA_n16 hA, hA_a17 hA, hA_n17 hA, hA_a18 hA, hA_n18 hA, kV_th, kI_th, Nat.not_lt_zero]
theorem a110_1 (hR : hB TR 1 x R m) (hA : hB TA 19 (x + 26) A m) (hl : R.1 0 6 = Int32.ofNat 0) {y : Int32} : dN e (d + 5) 110 [.ref x, .int y] m = dTh 1 m := by
  refine en110 (hR_c0 hR) fun t ht => ?_
  obtain ⟨u, rfl⟩ := fu 19 ht rfl
  simp -implicitDefEqProofs (disch := omega) only [↓reduceIte, q110_0, n154_1 hR hA hl, bd_s, kI_r, kV_r, kL_r, rZ_1, rZ_0, rZ_b, rI_ite, bI_ite, ite_tf, ite_ft, bI0, bI1, bf_ite, nAdd, nMul, nLt, nEq, nEqM, nMEq, nMLt, nLtM, nMLt0, if_true, if_false, Nat.reduceAdd, Nat.reduceMul, Nat.zero_add, Nat.add_zero, decide_eq_true_eq, decide_true, decide_false, Nat.reduceEqDiff, Nat.reduceLT, Nat.reduceLeDiff, eq_self, Bool.false_eq_true, Bool.true_eq_false, Bool.not_eq_false', Bool.not_eq_true', ite_not, hR_c0 hR, hR_r0_0 hR, hR_r0_1 hR, hR_r0_2 hR, hR_r0_3 hR, hR_r0_4 hR, hR_r0_5 hR, hR_g0_6 hR, hA_c0 hA, hA_r0_0 hA, hA_r0_1 hA, hA_r0_2 hA, hA_r0_3 hA, hA_r0_4 hA, hA_r0_5 hA, hA_r0_6 hA, hA_r0_7 hA, hA_r0_8 hA, hA_r0_9 hA, hA_r0_10 hA, hA_r0_11 hA, hA_g0_12 hA, hA_g0_13 hA, hA_g0_14 hA, hA_g0_15 hA, hA_g0_16 hA, hA_c1 hA, hA_r1_0 hA, hA_r1_1 hA, hA_r1_2 hA, hA_r1_3 hA, hA_g1_4 hA, hA_a2 hA, hA_n2 hA, hA_a3 hA, hA_n3 hA, hA_a4 hA, hA_n4 hA, hA_a5 hA, hA_n5 hA, hA_c6 hA, hA_r6_0 hA, hA_r6_1 hA, hA_g6_2 hA, hA_a7 hA, hA_n7 hA, hA_a8 hA, hA_n8 hA, hA_a9 hA, hA_n9 hA, hA_a10 hA, hA_n10 hA, hA_a11 hA, hA_n11 hA, hA_a12 hA, hA_n12 hA, hA_a13 hA, hA_n13 hA, hA_a14 hA, hA_n14 hA, hA_a15 hA, hA_n15 hA, hA_a16 hA, hA_n16 hA, hA_a17 hA, hA_n17 hA, hA_a18 hA, hA_n18 hA, kV_th, kI_th, Nat.not_lt_zero]
theorem a110_2 (hR : hB TR 1 x R m) (hA : hB TA 19 (x + 26) A m) (hl : R.1 0 6 = Int32.ofNat 1) (Z : OKA Y A h s) {y : Int32} {n : Nat} (hn : s 1 = Int32.ofNat n) (hm : n ≤ 24) (hx : rngB 0 ((n : Int) - 1) y = false) : dN e (d + 5) 110 [.ref x, .int y] m = dTh 2 m := by
  refine en110 (hR_c0 hR) fun t ht => ?_
  obtain ⟨u, rfl⟩ := fu 9 ht rfl
  simp -implicitDefEqProofs (disch := omega) only [↓reduceIte, q110_0, n154_2 hR hA hl Z hn hm hx, bd_s, kI_r, kV_r, kL_r, rZ_1, rZ_0, rZ_b, rI_ite, bI_ite, ite_tf, ite_ft, bI0, bI1, bf_ite, nAdd, nMul, nLt, nEq, nEqM, nMEq, nMLt, nLtM, nMLt0, if_true, if_false, Nat.reduceAdd, Nat.reduceMul, Nat.zero_add, Nat.add_zero, decide_eq_true_eq, decide_true, decide_false, Nat.reduceEqDiff, Nat.reduceLT, Nat.reduceLeDiff, eq_self, Bool.false_eq_true, Bool.true_eq_false, Bool.not_eq_false', Bool.not_eq_true', ite_not, hR_c0 hR, hR_r0_0 hR, hR_r0_1 hR, hR_r0_2 hR, hR_r0_3 hR, hR_r0_4 hR, hR_r0_5 hR, hR_g0_6 hR, hA_c0 hA, hA_r0_0 hA, hA_r0_1 hA, hA_r0_2 hA, hA_r0_3 hA, hA_r0_4 hA, hA_r0_5 hA, hA_r0_6 hA, hA_r0_7 hA, hA_r0_8 hA, hA_r0_9 hA, hA_r0_10 hA, hA_r0_11 hA, hA_g0_12 hA, hA_g0_13 hA, hA_g0_14 hA, hA_g0_15 hA, hA_g0_16 hA, hA_c1 hA, hA_r1_0 hA, hA_r1_1 hA, hA_r1_2 hA, hA_r1_3 hA, hA_g1_4 hA, hA_a2 hA, hA_n2 hA, hA_a3 hA, hA_n3 hA, hA_a4 hA, hA_n4 hA, hA_a5 hA, hA_n5 hA, hA_c6 hA, hA_r6_0 hA, hA_r6_1 hA, hA_g6_2 hA, hA_a7 hA, hA_n7 hA, hA_a8 hA, hA_n8 hA, hA_a9 hA, hA_n9 hA, hA_a10 hA, hA_n10 hA, hA_a11 hA, hA_n11 hA, hA_a12 hA, hA_n12 hA, hA_a13 hA, hA_n13 hA, hA_a14 hA, hA_n14 hA, hA_a15 hA, hA_n15 hA, hA_a16 hA, hA_n16 hA, hA_a17 hA, hA_n17 hA, hA_a18 hA, hA_n18 hA, kV_th, kI_th, Nat.not_lt_zero]
theorem a110_0 (hR : hB TR 1 x R m) (hA : hB TA 19 (x + 26) A m) (hl : R.1 0 6 = Int32.ofNat 1) (Z : OKA Y A h s) {k n : Nat} (hn : s 1 = Int32.ofNat n) (hm : n ≤ 24) (hk : k < n) : dN e (d + 5) 110 [.ref x, .int (Int32.ofNat k)] m = rI (bx s k 1) m := by
  have hk2 : k < nbS s := by unfold nbS; rw [hn, nN_o (by omega)]; exact hk
  obtain ⟨⟨r0, r1, r2, r4, r3, r5, r6, r8, r9⟩, wb, hk24⟩ := Z.box hk2
  refine en110 (hR_c0 hR) fun t ht => ?_
  obtain ⟨u, rfl⟩ := fu 9 ht rfl
  simp -implicitDefEqProofs (disch := omega) only [↓reduceIte, q110_0, n154_0 hR hA hl Z hn hm hk, r1, bd_s, kI_r, kV_r, kL_r, rZ_1, rZ_0, rZ_b, rI_ite, bI_ite, ite_tf, ite_ft, bI0, bI1, bf_ite, nAdd, nMul, nLt, nEq, nEqM, nMEq, nMLt, nLtM, nMLt0, if_true, if_false, Nat.reduceAdd, Nat.reduceMul, Nat.zero_add, Nat.add_zero, decide_eq_true_eq, decide_true, decide_false, Nat.reduceEqDiff, Nat.reduceLT, Nat.reduceLeDiff, eq_self, Bool.false_eq_true, Bool.true_eq_false, Bool.not_eq_false', Bool.not_eq_true', ite_not, hR_c0 hR, hR_r0_0 hR, hR_r0_1 hR, hR_r0_2 hR, hR_r0_3 hR, hR_r0_4 hR, hR_r0_5 hR, hR_g0_6 hR, hA_c0 hA, hA_r0_0 hA, hA_r0_1 hA, hA_r0_2 hA, hA_r0_3 hA, hA_r0_4 hA, hA_r0_5 hA, hA_r0_6 hA, hA_r0_7 hA, hA_r0_8 hA, hA_r0_9 hA, hA_r0_10 hA, hA_r0_11 hA, hA_g0_12 hA, hA_g0_13 hA, hA_g0_14 hA, hA_g0_15 hA, hA_g0_16 hA, hA_c1 hA, hA_r1_0 hA, hA_r1_1 hA, hA_r1_2 hA, hA_r1_3 hA, hA_g1_4 hA, hA_a2 hA, hA_n2 hA, hA_a3 hA, hA_n3 hA, hA_a4 hA, hA_n4 hA, hA_a5 hA, hA_n5 hA, hA_c6 hA, hA_r6_0 hA, hA_r6_1 hA, hA_g6_2 hA, hA_a7 hA, hA_n7 hA, hA_a8 hA, hA_n8 hA, hA_a9 hA, hA_n9 hA, hA_a10 hA, hA_n10 hA, hA_a11 hA, hA_n11 hA, hA_a12 hA, hA_n12 hA, hA_a13 hA, hA_n13 hA, hA_a14 hA, hA_n14 hA, hA_a15 hA, hA_n15 hA, hA_a16 hA, hA_n16 hA, hA_a17 hA, hA_n17 hA, hA_a18 hA, hA_n18 hA, kV_th, kI_th, Nat.not_lt_zero]
theorem a115_1 (hR : hB TR 1 x R m) (hA : hB TA 19 (x + 26) A m) (hl : R.1 0 6 = Int32.ofNat 0) {y : Int32} : dN e (d + 5) 115 [.ref x, .int y] m = dTh 1 m := by
  refine en115 (hR_c0 hR) fun t ht => ?_
  obtain ⟨u, rfl⟩ := fu 19 ht rfl
  simp -implicitDefEqProofs (disch := omega) only [↓reduceIte, q115_0, n154_1 hR hA hl, bd_s, kI_r, kV_r, kL_r, rZ_1, rZ_0, rZ_b, rI_ite, bI_ite, ite_tf, ite_ft, bI0, bI1, bf_ite, nAdd, nMul, nLt, nEq, nEqM, nMEq, nMLt, nLtM, nMLt0, if_true, if_false, Nat.reduceAdd, Nat.reduceMul, Nat.zero_add, Nat.add_zero, decide_eq_true_eq, decide_true, decide_false, Nat.reduceEqDiff, Nat.reduceLT, Nat.reduceLeDiff, eq_self, Bool.false_eq_true, Bool.true_eq_false, Bool.not_eq_false', Bool.not_eq_true', ite_not, hR_c0 hR, hR_r0_0 hR, hR_r0_1 hR, hR_r0_2 hR, hR_r0_3 hR, hR_r0_4 hR, hR_r0_5 hR, hR_g0_6 hR, hA_c0 hA, hA_r0_0 hA, hA_r0_1 hA, hA_r0_2 hA, hA_r0_3 hA, hA_r0_4 hA, hA_r0_5 hA, hA_r0_6 hA, hA_r0_7 hA, hA_r0_8 hA, hA_r0_9 hA, hA_r0_10 hA, hA_r0_11 hA, hA_g0_12 hA, hA_g0_13 hA, hA_g0_14 hA, hA_g0_15 hA, hA_g0_16 hA, hA_c1 hA, hA_r1_0 hA, hA_r1_1 hA, hA_r1_2 hA, hA_r1_3 hA, hA_g1_4 hA, hA_a2 hA, hA_n2 hA, hA_a3 hA, hA_n3 hA, hA_a4 hA, hA_n4 hA, hA_a5 hA, hA_n5 hA, hA_c6 hA, hA_r6_0 hA, hA_r6_1 hA, hA_g6_2 hA, hA_a7 hA, hA_n7 hA, hA_a8 hA, hA_n8 hA, hA_a9 hA, hA_n9 hA, hA_a10 hA, hA_n10 hA, hA_a11 hA, hA_n11 hA, hA_a12 hA, hA_n12 hA, hA_a13 hA, hA_n13 hA, hA_a14 hA, hA_n14 hA, hA_a15 hA, hA_n15 hA, hA_a16 hA, hA_n16 hA, hA_a17 hA, hA_n17 hA, hA_a18 hA, hA_n18 hA, kV_th, kI_th, Nat.not_lt_zero]
theorem a115_2 (hR : hB TR 1 x R m) (hA : hB TA 19 (x + 26) A m) (hl : R.1 0 6 = Int32.ofNat 1) (Z : OKA Y A h s) {y : Int32} {n : Nat} (hn : s 1 = Int32.ofNat n) (hm : n ≤ 24) (hx : rngB 0 ((n : Int) - 1) y = false) : dN e (d + 5) 115 [.ref x, .int y] m = dTh 2 m := by
  refine en115 (hR_c0 hR) fun t ht => ?_
  obtain ⟨u, rfl⟩ := fu 9 ht rfl
  simp -implicitDefEqProofs (disch := omega) only [↓reduceIte, q115_0, n154_2 hR hA hl Z hn hm hx, bd_s, kI_r, kV_r, kL_r, rZ_1, rZ_0, rZ_b, rI_ite, bI_ite, ite_tf, ite_ft, bI0, bI1, bf_ite, nAdd, nMul, nLt, nEq, nEqM, nMEq, nMLt, nLtM, nMLt0, if_true, if_false, Nat.reduceAdd, Nat.reduceMul, Nat.zero_add, Nat.add_zero, decide_eq_true_eq, decide_true, decide_false, Nat.reduceEqDiff, Nat.reduceLT, Nat.reduceLeDiff, eq_self, Bool.false_eq_true, Bool.true_eq_false, Bool.not_eq_false', Bool.not_eq_true', ite_not, hR_c0 hR, hR_r0_0 hR, hR_r0_1 hR, hR_r0_2 hR, hR_r0_3 hR, hR_r0_4 hR, hR_r0_5 hR, hR_g0_6 hR, hA_c0 hA, hA_r0_0 hA, hA_r0_1 hA, hA_r0_2 hA, hA_r0_3 hA, hA_r0_4 hA, hA_r0_5 hA, hA_r0_6 hA, hA_r0_7 hA, hA_r0_8 hA, hA_r0_9 hA, hA_r0_10 hA, hA_r0_11 hA, hA_g0_12 hA, hA_g0_13 hA, hA_g0_14 hA, hA_g0_15 hA, hA_g0_16 hA, hA_c1 hA, hA_r1_0 hA, hA_r1_1 hA, hA_r1_2 hA, hA_r1_3 hA, hA_g1_4 hA, hA_a2 hA, hA_n2 hA, hA_a3 hA, hA_n3 hA, hA_a4 hA, hA_n4 hA, hA_a5 hA, hA_n5 hA, hA_c6 hA, hA_r6_0 hA, hA_r6_1 hA, hA_g6_2 hA, hA_a7 hA, hA_n7 hA, hA_a8 hA, hA_n8 hA, hA_a9 hA, hA_n9 hA, hA_a10 hA, hA_n10 hA, hA_a11 hA, hA_n11 hA, hA_a12 hA, hA_n12 hA, hA_a13 hA, hA_n13 hA, hA_a14 hA, hA_n14 hA, hA_a15 hA, hA_n15 hA, hA_a16 hA, hA_n16 hA, hA_a17 hA, hA_n17 hA, hA_a18 hA, hA_n18 hA, kV_th, kI_th, Nat.not_lt_zero]
theorem a115_0 (hR : hB TR 1 x R m) (hA : hB TA 19 (x + 26) A m) (hl : R.1 0 6 = Int32.ofNat 1) (Z : OKA Y A h s) {k n : Nat} (hn : s 1 = Int32.ofNat n) (hm : n ≤ 24) (hk : k < n) : dN e (d + 5) 115 [.ref x, .int (Int32.ofNat k)] m = rI (bx s k 3) m := by
  have hk2 : k < nbS s := by unfold nbS; rw [hn, nN_o (by omega)]; exact hk
  obtain ⟨⟨r0, r1, r2, r4, r3, r5, r6, r8, r9⟩, wb, hk24⟩ := Z.box hk2
  refine en115 (hR_c0 hR) fun t ht => ?_
  obtain ⟨u, rfl⟩ := fu 9 ht rfl
  simp -implicitDefEqProofs (disch := omega) only [↓reduceIte, q115_0, n154_0 hR hA hl Z hn hm hk, r3, bd_s, kI_r, kV_r, kL_r, rZ_1, rZ_0, rZ_b, rI_ite, bI_ite, ite_tf, ite_ft, bI0, bI1, bf_ite, nAdd, nMul, nLt, nEq, nEqM, nMEq, nMLt, nLtM, nMLt0, if_true, if_false, Nat.reduceAdd, Nat.reduceMul, Nat.zero_add, Nat.add_zero, decide_eq_true_eq, decide_true, decide_false, Nat.reduceEqDiff, Nat.reduceLT, Nat.reduceLeDiff, eq_self, Bool.false_eq_true, Bool.true_eq_false, Bool.not_eq_false', Bool.not_eq_true', ite_not, hR_c0 hR, hR_r0_0 hR, hR_r0_1 hR, hR_r0_2 hR, hR_r0_3 hR, hR_r0_4 hR, hR_r0_5 hR, hR_g0_6 hR, hA_c0 hA, hA_r0_0 hA, hA_r0_1 hA, hA_r0_2 hA, hA_r0_3 hA, hA_r0_4 hA, hA_r0_5 hA, hA_r0_6 hA, hA_r0_7 hA, hA_r0_8 hA, hA_r0_9 hA, hA_r0_10 hA, hA_r0_11 hA, hA_g0_12 hA, hA_g0_13 hA, hA_g0_14 hA, hA_g0_15 hA, hA_g0_16 hA, hA_c1 hA, hA_r1_0 hA, hA_r1_1 hA, hA_r1_2 hA, hA_r1_3 hA, hA_g1_4 hA, hA_a2 hA, hA_n2 hA, hA_a3 hA, hA_n3 hA, hA_a4 hA, hA_n4 hA, hA_a5 hA, hA_n5 hA, hA_c6 hA, hA_r6_0 hA, hA_r6_1 hA, hA_g6_2 hA, hA_a7 hA, hA_n7 hA, hA_a8 hA, hA_n8 hA, hA_a9 hA, hA_n9 hA, hA_a10 hA, hA_n10 hA, hA_a11 hA, hA_n11 hA, hA_a12 hA, hA_n12 hA, hA_a13 hA, hA_n13 hA, hA_a14 hA, hA_n14 hA, hA_a15 hA, hA_n15 hA, hA_a16 hA, hA_n16 hA, hA_a17 hA, hA_n17 hA, hA_a18 hA, hA_n18 hA, kV_th, kI_th, Nat.not_lt_zero]
theorem a116_1 (hR : hB TR 1 x R m) (hA : hB TA 19 (x + 26) A m) (hl : R.1 0 6 = Int32.ofNat 0) {y : Int32} : dN e (d + 5) 116 [.ref x, .int y] m = dTh 1 m := by
  refine en116 (hR_c0 hR) fun t ht => ?_
  obtain ⟨u, rfl⟩ := fu 19 ht rfl
  simp -implicitDefEqProofs (disch := omega) only [↓reduceIte, q116_0, n154_1 hR hA hl, bd_s, kI_r, kV_r, kL_r, rZ_1, rZ_0, rZ_b, rI_ite, bI_ite, ite_tf, ite_ft, bI0, bI1, bf_ite, nAdd, nMul, nLt, nEq, nEqM, nMEq, nMLt, nLtM, nMLt0, if_true, if_false, Nat.reduceAdd, Nat.reduceMul, Nat.zero_add, Nat.add_zero, decide_eq_true_eq, decide_true, decide_false, Nat.reduceEqDiff, Nat.reduceLT, Nat.reduceLeDiff, eq_self, Bool.false_eq_true, Bool.true_eq_false, Bool.not_eq_false', Bool.not_eq_true', ite_not, hR_c0 hR, hR_r0_0 hR, hR_r0_1 hR, hR_r0_2 hR, hR_r0_3 hR, hR_r0_4 hR, hR_r0_5 hR, hR_g0_6 hR, hA_c0 hA, hA_r0_0 hA, hA_r0_1 hA, hA_r0_2 hA, hA_r0_3 hA, hA_r0_4 hA, hA_r0_5 hA, hA_r0_6 hA, hA_r0_7 hA, hA_r0_8 hA, hA_r0_9 hA, hA_r0_10 hA, hA_r0_11 hA, hA_g0_12 hA, hA_g0_13 hA, hA_g0_14 hA, hA_g0_15 hA, hA_g0_16 hA, hA_c1 hA, hA_r1_0 hA, hA_r1_1 hA, hA_r1_2 hA, hA_r1_3 hA, hA_g1_4 hA, hA_a2 hA, hA_n2 hA, hA_a3 hA, hA_n3 hA, hA_a4 hA, hA_n4 hA, hA_a5 hA, hA_n5 hA, hA_c6 hA, hA_r6_0 hA, hA_r6_1 hA, hA_g6_2 hA, hA_a7 hA, hA_n7 hA, hA_a8 hA, hA_n8 hA, hA_a9 hA, hA_n9 hA, hA_a10 hA, hA_n10 hA, hA_a11 hA, hA_n11 hA, hA_a12 hA, hA_n12 hA, hA_a13 hA, hA_n13 hA, hA_a14 hA, hA_n14 hA, hA_a15 hA, hA_n15 hA, hA_a16 hA, hA_n16 hA, hA_a17 hA, hA_n17 hA, hA_a18 hA, hA_n18 hA, kV_th, kI_th, Nat.not_lt_zero]
theorem a116_2 (hR : hB TR 1 x R m) (hA : hB TA 19 (x + 26) A m) (hl : R.1 0 6 = Int32.ofNat 1) (Z : OKA Y A h s) {y : Int32} {n : Nat} (hn : s 1 = Int32.ofNat n) (hm : n ≤ 24) (hx : rngB 0 ((n : Int) - 1) y = false) : dN e (d + 5) 116 [.ref x, .int y] m = dTh 2 m := by
  refine en116 (hR_c0 hR) fun t ht => ?_
  obtain ⟨u, rfl⟩ := fu 9 ht rfl
  simp -implicitDefEqProofs (disch := omega) only [↓reduceIte, q116_0, n154_2 hR hA hl Z hn hm hx, bd_s, kI_r, kV_r, kL_r, rZ_1, rZ_0, rZ_b, rI_ite, bI_ite, ite_tf, ite_ft, bI0, bI1, bf_ite, nAdd, nMul, nLt, nEq, nEqM, nMEq, nMLt, nLtM, nMLt0, if_true, if_false, Nat.reduceAdd, Nat.reduceMul, Nat.zero_add, Nat.add_zero, decide_eq_true_eq, decide_true, decide_false, Nat.reduceEqDiff, Nat.reduceLT, Nat.reduceLeDiff, eq_self, Bool.false_eq_true, Bool.true_eq_false, Bool.not_eq_false', Bool.not_eq_true', ite_not, hR_c0 hR, hR_r0_0 hR, hR_r0_1 hR, hR_r0_2 hR, hR_r0_3 hR, hR_r0_4 hR, hR_r0_5 hR, hR_g0_6 hR, hA_c0 hA, hA_r0_0 hA, hA_r0_1 hA, hA_r0_2 hA, hA_r0_3 hA, hA_r0_4 hA, hA_r0_5 hA, hA_r0_6 hA, hA_r0_7 hA, hA_r0_8 hA, hA_r0_9 hA, hA_r0_10 hA, hA_r0_11 hA, hA_g0_12 hA, hA_g0_13 hA, hA_g0_14 hA, hA_g0_15 hA, hA_g0_16 hA, hA_c1 hA, hA_r1_0 hA, hA_r1_1 hA, hA_r1_2 hA, hA_r1_3 hA, hA_g1_4 hA, hA_a2 hA, hA_n2 hA, hA_a3 hA, hA_n3 hA, hA_a4 hA, hA_n4 hA, hA_a5 hA, hA_n5 hA, hA_c6 hA, hA_r6_0 hA, hA_r6_1 hA, hA_g6_2 hA, hA_a7 hA, hA_n7 hA, hA_a8 hA, hA_n8 hA, hA_a9 hA, hA_n9 hA, hA_a10 hA, hA_n10 hA, hA_a11 hA, hA_n11 hA, hA_a12 hA, hA_n12 hA, hA_a13 hA, hA_n13 hA, hA_a14 hA, hA_n14 hA, hA_a15 hA, hA_n15 hA, hA_a16 hA, hA_n16 hA, hA_a17 hA, hA_n17 hA, hA_a18 hA, hA_n18 hA, kV_th, kI_th, Nat.not_lt_zero]
theorem a116_0 (hR : hB TR 1 x R m) (hA : hB TA 19 (x + 26) A m) (hl : R.1 0 6 = Int32.ofNat 1) (Z : OKA Y A h s) {k n : Nat} (hn : s 1 = Int32.ofNat n) (hm : n ≤ 24) (hk : k < n) : dN e (d + 5) 116 [.ref x, .int (Int32.ofNat k)] m = rI (bx s k 5) m := by
  have hk2 : k < nbS s := by unfold nbS; rw [hn, nN_o (by omega)]; exact hk
  obtain ⟨⟨r0, r1, r2, r4, r3, r5, r6, r8, r9⟩, wb, hk24⟩ := Z.box hk2
  refine en116 (hR_c0 hR) fun t ht => ?_
  obtain ⟨u, rfl⟩ := fu 9 ht rfl
  simp -implicitDefEqProofs (disch := omega) only [↓reduceIte, q116_0, n154_0 hR hA hl Z hn hm hk, r5, bd_s, kI_r, kV_r, kL_r, rZ_1, rZ_0, rZ_b, rI_ite, bI_ite, ite_tf, ite_ft, bI0, bI1, bf_ite, nAdd, nMul, nLt, nEq, nEqM, nMEq, nMLt, nLtM, nMLt0, if_true, if_false, Nat.reduceAdd, Nat.reduceMul, Nat.zero_add, Nat.add_zero, decide_eq_true_eq, decide_true, decide_false, Nat.reduceEqDiff, Nat.reduceLT, Nat.reduceLeDiff, eq_self, Bool.false_eq_true, Bool.true_eq_false, Bool.not_eq_false', Bool.not_eq_true', ite_not, hR_c0 hR, hR_r0_0 hR, hR_r0_1 hR, hR_r0_2 hR, hR_r0_3 hR, hR_r0_4 hR, hR_r0_5 hR, hR_g0_6 hR, hA_c0 hA, hA_r0_0 hA, hA_r0_1 hA, hA_r0_2 hA, hA_r0_3 hA, hA_r0_4 hA, hA_r0_5 hA, hA_r0_6 hA, hA_r0_7 hA, hA_r0_8 hA, hA_r0_9 hA, hA_r0_10 hA, hA_r0_11 hA, hA_g0_12 hA, hA_g0_13 hA, hA_g0_14 hA, hA_g0_15 hA, hA_g0_16 hA, hA_c1 hA, hA_r1_0 hA, hA_r1_1 hA, hA_r1_2 hA, hA_r1_3 hA, hA_g1_4 hA, hA_a2 hA, hA_n2 hA, hA_a3 hA, hA_n3 hA, hA_a4 hA, hA_n4 hA, hA_a5 hA, hA_n5 hA, hA_c6 hA, hA_r6_0 hA, hA_r6_1 hA, hA_g6_2 hA, hA_a7 hA, hA_n7 hA, hA_a8 hA, hA_n8 hA, hA_a9 hA, hA_n9 hA, hA_a10 hA, hA_n10 hA, hA_a11 hA, hA_n11 hA, hA_a12 hA, hA_n12 hA, hA_a13 hA, hA_n13 hA, hA_a14 hA, hA_n14 hA, hA_a15 hA, hA_n15 hA, hA_a16 hA, hA_n16 hA, hA_a17 hA, hA_n17 hA, hA_a18 hA, hA_n18 hA, kV_th, kI_th, Nat.not_lt_zero]
theorem a119_1 (hR : hB TR 1 x R m) (hA : hB TA 19 (x + 26) A m) (hl : R.1 0 6 = Int32.ofNat 0) {y : Int32} : dN e (d + 5) 119 [.ref x, .int y] m = dTh 1 m := by
  refine en119 (hR_c0 hR) fun t ht => ?_
  obtain ⟨u, rfl⟩ := fu 19 ht rfl
  simp -implicitDefEqProofs (disch := omega) only [↓reduceIte, q119_0, n154_1 hR hA hl, bd_s, kI_r, kV_r, kL_r, rZ_1, rZ_0, rZ_b, rI_ite, bI_ite, ite_tf, ite_ft, bI0, bI1, bf_ite, nAdd, nMul, nLt, nEq, nEqM, nMEq, nMLt, nLtM, nMLt0, if_true, if_false, Nat.reduceAdd, Nat.reduceMul, Nat.zero_add, Nat.add_zero, decide_eq_true_eq, decide_true, decide_false, Nat.reduceEqDiff, Nat.reduceLT, Nat.reduceLeDiff, eq_self, Bool.false_eq_true, Bool.true_eq_false, Bool.not_eq_false', Bool.not_eq_true', ite_not, hR_c0 hR, hR_r0_0 hR, hR_r0_1 hR, hR_r0_2 hR, hR_r0_3 hR, hR_r0_4 hR, hR_r0_5 hR, hR_g0_6 hR, hA_c0 hA, hA_r0_0 hA, hA_r0_1 hA, hA_r0_2 hA, hA_r0_3 hA, hA_r0_4 hA, hA_r0_5 hA, hA_r0_6 hA, hA_r0_7 hA, hA_r0_8 hA, hA_r0_9 hA, hA_r0_10 hA, hA_r0_11 hA, hA_g0_12 hA, hA_g0_13 hA, hA_g0_14 hA, hA_g0_15 hA, hA_g0_16 hA, hA_c1 hA, hA_r1_0 hA, hA_r1_1 hA, hA_r1_2 hA, hA_r1_3 hA, hA_g1_4 hA, hA_a2 hA, hA_n2 hA, hA_a3 hA, hA_n3 hA, hA_a4 hA, hA_n4 hA, hA_a5 hA, hA_n5 hA, hA_c6 hA, hA_r6_0 hA, hA_r6_1 hA, hA_g6_2 hA, hA_a7 hA, hA_n7 hA, hA_a8 hA, hA_n8 hA, hA_a9 hA, hA_n9 hA, hA_a10 hA, hA_n10 hA, hA_a11 hA, hA_n11 hA, hA_a12 hA, hA_n12 hA, hA_a13 hA, hA_n13 hA, hA_a14 hA, hA_n14 hA, hA_a15 hA, hA_n15 hA, hA_a16 hA, hA_n16 hA, hA_a17 hA, hA_n17 hA, hA_a18 hA, hA_n18 hA, kV_th, kI_th, Nat.not_lt_zero]
theorem a119_2 (hR : hB TR 1 x R m) (hA : hB TA 19 (x + 26) A m) (hl : R.1 0 6 = Int32.ofNat 1) (Z : OKA Y A h s) {y : Int32} {n : Nat} (hn : s 1 = Int32.ofNat n) (hm : n ≤ 24) (hx : rngB 0 ((n : Int) - 1) y = false) : dN e (d + 5) 119 [.ref x, .int y] m = dTh 2 m := by
  refine en119 (hR_c0 hR) fun t ht => ?_
  obtain ⟨u, rfl⟩ := fu 9 ht rfl
  simp -implicitDefEqProofs (disch := omega) only [↓reduceIte, q119_0, n154_2 hR hA hl Z hn hm hx, bd_s, kI_r, kV_r, kL_r, rZ_1, rZ_0, rZ_b, rI_ite, bI_ite, ite_tf, ite_ft, bI0, bI1, bf_ite, nAdd, nMul, nLt, nEq, nEqM, nMEq, nMLt, nLtM, nMLt0, if_true, if_false, Nat.reduceAdd, Nat.reduceMul, Nat.zero_add, Nat.add_zero, decide_eq_true_eq, decide_true, decide_false, Nat.reduceEqDiff, Nat.reduceLT, Nat.reduceLeDiff, eq_self, Bool.false_eq_true, Bool.true_eq_false, Bool.not_eq_false', Bool.not_eq_true', ite_not, hR_c0 hR, hR_r0_0 hR, hR_r0_1 hR, hR_r0_2 hR, hR_r0_3 hR, hR_r0_4 hR, hR_r0_5 hR, hR_g0_6 hR, hA_c0 hA, hA_r0_0 hA, hA_r0_1 hA, hA_r0_2 hA, hA_r0_3 hA, hA_r0_4 hA, hA_r0_5 hA, hA_r0_6 hA, hA_r0_7 hA, hA_r0_8 hA, hA_r0_9 hA, hA_r0_10 hA, hA_r0_11 hA, hA_g0_12 hA, hA_g0_13 hA, hA_g0_14 hA, hA_g0_15 hA, hA_g0_16 hA, hA_c1 hA, hA_r1_0 hA, hA_r1_1 hA, hA_r1_2 hA, hA_r1_3 hA, hA_g1_4 hA, hA_a2 hA, hA_n2 hA, hA_a3 hA, hA_n3 hA, hA_a4 hA, hA_n4 hA, hA_a5 hA, hA_n5 hA, hA_c6 hA, hA_r6_0 hA, hA_r6_1 hA, hA_g6_2 hA, hA_a7 hA, hA_n7 hA, hA_a8 hA, hA_n8 hA, hA_a9 hA, hA_n9 hA, hA_a10 hA, hA_n10 hA, hA_a11 hA, hA_n11 hA, hA_a12 hA, hA_n12 hA, hA_a13 hA, hA_n13 hA, hA_a14 hA, hA_n14 hA, hA_a15 hA, hA_n15 hA, hA_a16 hA, hA_n16 hA, hA_a17 hA, hA_n17 hA, hA_a18 hA, hA_n18 hA, kV_th, kI_th, Nat.not_lt_zero]
theorem a119_0 (hR : hB TR 1 x R m) (hA : hB TA 19 (x + 26) A m) (hl : R.1 0 6 = Int32.ofNat 1) (Z : OKA Y A h s) {k n : Nat} (hn : s 1 = Int32.ofNat n) (hm : n ≤ 24) (hk : k < n) : dN e (d + 5) 119 [.ref x, .int (Int32.ofNat k)] m = rI (bx s k 2) m := by
  have hk2 : k < nbS s := by unfold nbS; rw [hn, nN_o (by omega)]; exact hk
  obtain ⟨⟨r0, r1, r2, r4, r3, r5, r6, r8, r9⟩, wb, hk24⟩ := Z.box hk2
  refine en119 (hR_c0 hR) fun t ht => ?_
  obtain ⟨u, rfl⟩ := fu 9 ht rfl
  simp -implicitDefEqProofs (disch := omega) only [↓reduceIte, q119_0, n154_0 hR hA hl Z hn hm hk, r2, bd_s, kI_r, kV_r, kL_r, rZ_1, rZ_0, rZ_b, rI_ite, bI_ite, ite_tf, ite_ft, bI0, bI1, bf_ite, nAdd, nMul, nLt, nEq, nEqM, nMEq, nMLt, nLtM, nMLt0, if_true, if_false, Nat.reduceAdd, Nat.reduceMul, Nat.zero_add, Nat.add_zero, decide_eq_true_eq, decide_true, decide_false, Nat.reduceEqDiff, Nat.reduceLT, Nat.reduceLeDiff, eq_self, Bool.false_eq_true, Bool.true_eq_false, Bool.not_eq_false', Bool.not_eq_true', ite_not, hR_c0 hR, hR_r0_0 hR, hR_r0_1 hR, hR_r0_2 hR, hR_r0_3 hR, hR_r0_4 hR, hR_r0_5 hR, hR_g0_6 hR, hA_c0 hA, hA_r0_0 hA, hA_r0_1 hA, hA_r0_2 hA, hA_r0_3 hA, hA_r0_4 hA, hA_r0_5 hA, hA_r0_6 hA, hA_r0_7 hA, hA_r0_8 hA, hA_r0_9 hA, hA_r0_10 hA, hA_r0_11 hA, hA_g0_12 hA, hA_g0_13 hA, hA_g0_14 hA, hA_g0_15 hA, hA_g0_16 hA, hA_c1 hA, hA_r1_0 hA, hA_r1_1 hA, hA_r1_2 hA, hA_r1_3 hA, hA_g1_4 hA, hA_a2 hA, hA_n2 hA, hA_a3 hA, hA_n3 hA, hA_a4 hA, hA_n4 hA, hA_a5 hA, hA_n5 hA, hA_c6 hA, hA_r6_0 hA, hA_r6_1 hA, hA_g6_2 hA, hA_a7 hA, hA_n7 hA, hA_a8 hA, hA_n8 hA, hA_a9 hA, hA_n9 hA, hA_a10 hA, hA_n10 hA, hA_a11 hA, hA_n11 hA, hA_a12 hA, hA_n12 hA, hA_a13 hA, hA_n13 hA, hA_a14 hA, hA_n14 hA, hA_a15 hA, hA_n15 hA, hA_a16 hA, hA_n16 hA, hA_a17 hA, hA_n17 hA, hA_a18 hA, hA_n18 hA, kV_th, kI_th, Nat.not_lt_zero]
theorem a127_1 (hR : hB TR 1 x R m) (hA : hB TA 19 (x + 26) A m) (hl : R.1 0 6 = Int32.ofNat 0) {y : Int32} : dN e (d + 5) 127 [.ref x, .int y] m = dTh 1 m := by
  refine en127 (hR_c0 hR) fun t ht => ?_
  obtain ⟨u, rfl⟩ := fu 19 ht rfl
  simp -implicitDefEqProofs (disch := omega) only [↓reduceIte, q127_0, n154_1 hR hA hl, bd_s, kI_r, kV_r, kL_r, rZ_1, rZ_0, rZ_b, rI_ite, bI_ite, ite_tf, ite_ft, bI0, bI1, bf_ite, nAdd, nMul, nLt, nEq, nEqM, nMEq, nMLt, nLtM, nMLt0, if_true, if_false, Nat.reduceAdd, Nat.reduceMul, Nat.zero_add, Nat.add_zero, decide_eq_true_eq, decide_true, decide_false, Nat.reduceEqDiff, Nat.reduceLT, Nat.reduceLeDiff, eq_self, Bool.false_eq_true, Bool.true_eq_false, Bool.not_eq_false', Bool.not_eq_true', ite_not, hR_c0 hR, hR_r0_0 hR, hR_r0_1 hR, hR_r0_2 hR, hR_r0_3 hR, hR_r0_4 hR, hR_r0_5 hR, hR_g0_6 hR, hA_c0 hA, hA_r0_0 hA, hA_r0_1 hA, hA_r0_2 hA, hA_r0_3 hA, hA_r0_4 hA, hA_r0_5 hA, hA_r0_6 hA, hA_r0_7 hA, hA_r0_8 hA, hA_r0_9 hA, hA_r0_10 hA, hA_r0_11 hA, hA_g0_12 hA, hA_g0_13 hA, hA_g0_14 hA, hA_g0_15 hA, hA_g0_16 hA, hA_c1 hA, hA_r1_0 hA, hA_r1_1 hA, hA_r1_2 hA, hA_r1_3 hA, hA_g1_4 hA, hA_a2 hA, hA_n2 hA, hA_a3 hA, hA_n3 hA, hA_a4 hA, hA_n4 hA, hA_a5 hA, hA_n5 hA, hA_c6 hA, hA_r6_0 hA, hA_r6_1 hA, hA_g6_2 hA, hA_a7 hA, hA_n7 hA, hA_a8 hA, hA_n8 hA, hA_a9 hA, hA_n9 hA, hA_a10 hA, hA_n10 hA, hA_a11 hA, hA_n11 hA, hA_a12 hA, hA_n12 hA, hA_a13 hA, hA_n13 hA, hA_a14 hA, hA_n14 hA, hA_a15 hA, hA_n15 hA, hA_a16 hA, hA_n16 hA, hA_a17 hA, hA_n17 hA, hA_a18 hA, hA_n18 hA, kV_th, kI_th, Nat.not_lt_zero]
theorem a127_2 (hR : hB TR 1 x R m) (hA : hB TA 19 (x + 26) A m) (hl : R.1 0 6 = Int32.ofNat 1) (Z : OKA Y A h s) {y : Int32} {n : Nat} (hn : s 1 = Int32.ofNat n) (hm : n ≤ 24) (hx : rngB 0 ((n : Int) - 1) y = false) : dN e (d + 5) 127 [.ref x, .int y] m = dTh 2 m := by
  refine en127 (hR_c0 hR) fun t ht => ?_
  obtain ⟨u, rfl⟩ := fu 9 ht rfl
  simp -implicitDefEqProofs (disch := omega) only [↓reduceIte, q127_0, n154_2 hR hA hl Z hn hm hx, bd_s, kI_r, kV_r, kL_r, rZ_1, rZ_0, rZ_b, rI_ite, bI_ite, ite_tf, ite_ft, bI0, bI1, bf_ite, nAdd, nMul, nLt, nEq, nEqM, nMEq, nMLt, nLtM, nMLt0, if_true, if_false, Nat.reduceAdd, Nat.reduceMul, Nat.zero_add, Nat.add_zero, decide_eq_true_eq, decide_true, decide_false, Nat.reduceEqDiff, Nat.reduceLT, Nat.reduceLeDiff, eq_self, Bool.false_eq_true, Bool.true_eq_false, Bool.not_eq_false', Bool.not_eq_true', ite_not, hR_c0 hR, hR_r0_0 hR, hR_r0_1 hR, hR_r0_2 hR, hR_r0_3 hR, hR_r0_4 hR, hR_r0_5 hR, hR_g0_6 hR, hA_c0 hA, hA_r0_0 hA, hA_r0_1 hA, hA_r0_2 hA, hA_r0_3 hA, hA_r0_4 hA, hA_r0_5 hA, hA_r0_6 hA, hA_r0_7 hA, hA_r0_8 hA, hA_r0_9 hA, hA_r0_10 hA, hA_r0_11 hA, hA_g0_12 hA, hA_g0_13 hA, hA_g0_14 hA, hA_g0_15 hA, hA_g0_16 hA, hA_c1 hA, hA_r1_0 hA, hA_r1_1 hA, hA_r1_2 hA, hA_r1_3 hA, hA_g1_4 hA, hA_a2 hA, hA_n2 hA, hA_a3 hA, hA_n3 hA, hA_a4 hA, hA_n4 hA, hA_a5 hA, hA_n5 hA, hA_c6 hA, hA_r6_0 hA, hA_r6_1 hA, hA_g6_2 hA, hA_a7 hA, hA_n7 hA, hA_a8 hA, hA_n8 hA, hA_a9 hA, hA_n9 hA, hA_a10 hA, hA_n10 hA, hA_a11 hA, hA_n11 hA, hA_a12 hA, hA_n12 hA, hA_a13 hA, hA_n13 hA, hA_a14 hA, hA_n14 hA, hA_a15 hA, hA_n15 hA, hA_a16 hA, hA_n16 hA, hA_a17 hA, hA_n17 hA, hA_a18 hA, hA_n18 hA, kV_th, kI_th, Nat.not_lt_zero]
theorem a127_0 (hR : hB TR 1 x R m) (hA : hB TA 19 (x + 26) A m) (hl : R.1 0 6 = Int32.ofNat 1) (Z : OKA Y A h s) {k n : Nat} (hn : s 1 = Int32.ofNat n) (hm : n ≤ 24) (hk : k < n) : dN e (d + 5) 127 [.ref x, .int (Int32.ofNat k)] m = rI (bx s k 8) m := by
  have hk2 : k < nbS s := by unfold nbS; rw [hn, nN_o (by omega)]; exact hk
  obtain ⟨⟨r0, r1, r2, r4, r3, r5, r6, r8, r9⟩, wb, hk24⟩ := Z.box hk2
  refine en127 (hR_c0 hR) fun t ht => ?_
  obtain ⟨u, rfl⟩ := fu 9 ht rfl
  simp -implicitDefEqProofs (disch := omega) only [↓reduceIte, q127_0, n154_0 hR hA hl Z hn hm hk, r8, bd_s, kI_r, kV_r, kL_r, rZ_1, rZ_0, rZ_b, rI_ite, bI_ite, ite_tf, ite_ft, bI0, bI1, bf_ite, nAdd, nMul, nLt, nEq, nEqM, nMEq, nMLt, nLtM, nMLt0, if_true, if_false, Nat.reduceAdd, Nat.reduceMul, Nat.zero_add, Nat.add_zero, decide_eq_true_eq, decide_true, decide_false, Nat.reduceEqDiff, Nat.reduceLT, Nat.reduceLeDiff, eq_self, Bool.false_eq_true, Bool.true_eq_false, Bool.not_eq_false', Bool.not_eq_true', ite_not, hR_c0 hR, hR_r0_0 hR, hR_r0_1 hR, hR_r0_2 hR, hR_r0_3 hR, hR_r0_4 hR, hR_r0_5 hR, hR_g0_6 hR, hA_c0 hA, hA_r0_0 hA, hA_r0_1 hA, hA_r0_2 hA, hA_r0_3 hA, hA_r0_4 hA, hA_r0_5 hA, hA_r0_6 hA, hA_r0_7 hA, hA_r0_8 hA, hA_r0_9 hA, hA_r0_10 hA, hA_r0_11 hA, hA_g0_12 hA, hA_g0_13 hA, hA_g0_14 hA, hA_g0_15 hA, hA_g0_16 hA, hA_c1 hA, hA_r1_0 hA, hA_r1_1 hA, hA_r1_2 hA, hA_r1_3 hA, hA_g1_4 hA, hA_a2 hA, hA_n2 hA, hA_a3 hA, hA_n3 hA, hA_a4 hA, hA_n4 hA, hA_a5 hA, hA_n5 hA, hA_c6 hA, hA_r6_0 hA, hA_r6_1 hA, hA_g6_2 hA, hA_a7 hA, hA_n7 hA, hA_a8 hA, hA_n8 hA, hA_a9 hA, hA_n9 hA, hA_a10 hA, hA_n10 hA, hA_a11 hA, hA_n11 hA, hA_a12 hA, hA_n12 hA, hA_a13 hA, hA_n13 hA, hA_a14 hA, hA_n14 hA, hA_a15 hA, hA_n15 hA, hA_a16 hA, hA_n16 hA, hA_a17 hA, hA_n17 hA, hA_a18 hA, hA_n18 hA, kV_th, kI_th, Nat.not_lt_zero]
theorem a117_1 (hR : hB TR 1 x R m) (hA : hB TA 19 (x + 26) A m) (hl : R.1 0 6 = Int32.ofNat 0) {y : Int32} : dN e (d + 5) 117 [.ref x, .int y] m = dTh 1 m := by
  refine en117 (hR_c0 hR) fun t ht => ?_
  obtain ⟨u, rfl⟩ := fu 19 ht rfl
  simp -implicitDefEqProofs (disch := omega) only [↓reduceIte, q117_0, n154_1 hR hA hl, bd_s, kI_r, kV_r, kL_r, rZ_1, rZ_0, rZ_b, rI_ite, bI_ite, ite_tf, ite_ft, bI0, bI1, bf_ite, nAdd, nMul, nLt, nEq, nEqM, nMEq, nMLt, nLtM, nMLt0, if_true, if_false, Nat.reduceAdd, Nat.reduceMul, Nat.zero_add, Nat.add_zero, decide_eq_true_eq, decide_true, decide_false, Nat.reduceEqDiff, Nat.reduceLT, Nat.reduceLeDiff, eq_self, Bool.false_eq_true, Bool.true_eq_false, Bool.not_eq_false', Bool.not_eq_true', ite_not, hR_c0 hR, hR_r0_0 hR, hR_r0_1 hR, hR_r0_2 hR, hR_r0_3 hR, hR_r0_4 hR, hR_r0_5 hR, hR_g0_6 hR, hA_c0 hA, hA_r0_0 hA, hA_r0_1 hA, hA_r0_2 hA, hA_r0_3 hA, hA_r0_4 hA, hA_r0_5 hA, hA_r0_6 hA, hA_r0_7 hA, hA_r0_8 hA, hA_r0_9 hA, hA_r0_10 hA, hA_r0_11 hA, hA_g0_12 hA, hA_g0_13 hA, hA_g0_14 hA, hA_g0_15 hA, hA_g0_16 hA, hA_c1 hA, hA_r1_0 hA, hA_r1_1 hA, hA_r1_2 hA, hA_r1_3 hA, hA_g1_4 hA, hA_a2 hA, hA_n2 hA, hA_a3 hA, hA_n3 hA, hA_a4 hA, hA_n4 hA, hA_a5 hA, hA_n5 hA, hA_c6 hA, hA_r6_0 hA, hA_r6_1 hA, hA_g6_2 hA, hA_a7 hA, hA_n7 hA, hA_a8 hA, hA_n8 hA, hA_a9 hA, hA_n9 hA, hA_a10 hA, hA_n10 hA, hA_a11 hA, hA_n11 hA, hA_a12 hA, hA_n12 hA, hA_a13 hA, hA_n13 hA, hA_a14 hA, hA_n14 hA, hA_a15 hA, hA_n15 hA, hA_a16 hA, hA_n16 hA, hA_a17 hA, hA_n17 hA, hA_a18 hA, hA_n18 hA, kV_th, kI_th, Nat.not_lt_zero]
theorem a117_2 (hR : hB TR 1 x R m) (hA : hB TA 19 (x + 26) A m) (hl : R.1 0 6 = Int32.ofNat 1) (Z : OKA Y A h s) {y : Int32} {n : Nat} (hn : s 1 = Int32.ofNat n) (hm : n ≤ 24) (hx : rngB 0 ((n : Int) - 1) y = false) : dN e (d + 5) 117 [.ref x, .int y] m = dTh 2 m := by
  refine en117 (hR_c0 hR) fun t ht => ?_
  obtain ⟨u, rfl⟩ := fu 9 ht rfl
  simp -implicitDefEqProofs (disch := omega) only [↓reduceIte, q117_0, n154_2 hR hA hl Z hn hm hx, bd_s, kI_r, kV_r, kL_r, rZ_1, rZ_0, rZ_b, rI_ite, bI_ite, ite_tf, ite_ft, bI0, bI1, bf_ite, nAdd, nMul, nLt, nEq, nEqM, nMEq, nMLt, nLtM, nMLt0, if_true, if_false, Nat.reduceAdd, Nat.reduceMul, Nat.zero_add, Nat.add_zero, decide_eq_true_eq, decide_true, decide_false, Nat.reduceEqDiff, Nat.reduceLT, Nat.reduceLeDiff, eq_self, Bool.false_eq_true, Bool.true_eq_false, Bool.not_eq_false', Bool.not_eq_true', ite_not, hR_c0 hR, hR_r0_0 hR, hR_r0_1 hR, hR_r0_2 hR, hR_r0_3 hR, hR_r0_4 hR, hR_r0_5 hR, hR_g0_6 hR, hA_c0 hA, hA_r0_0 hA, hA_r0_1 hA, hA_r0_2 hA, hA_r0_3 hA, hA_r0_4 hA, hA_r0_5 hA, hA_r0_6 hA, hA_r0_7 hA, hA_r0_8 hA, hA_r0_9 hA, hA_r0_10 hA, hA_r0_11 hA, hA_g0_12 hA, hA_g0_13 hA, hA_g0_14 hA, hA_g0_15 hA, hA_g0_16 hA, hA_c1 hA, hA_r1_0 hA, hA_r1_1 hA, hA_r1_2 hA, hA_r1_3 hA, hA_g1_4 hA, hA_a2 hA, hA_n2 hA, hA_a3 hA, hA_n3 hA, hA_a4 hA, hA_n4 hA, hA_a5 hA, hA_n5 hA, hA_c6 hA, hA_r6_0 hA, hA_r6_1 hA, hA_g6_2 hA, hA_a7 hA, hA_n7 hA, hA_a8 hA, hA_n8 hA, hA_a9 hA, hA_n9 hA, hA_a10 hA, hA_n10 hA, hA_a11 hA, hA_n11 hA, hA_a12 hA, hA_n12 hA, hA_a13 hA, hA_n13 hA, hA_a14 hA, hA_n14 hA, hA_a15 hA, hA_n15 hA, hA_a16 hA, hA_n16 hA, hA_a17 hA, hA_n17 hA, hA_a18 hA, hA_n18 hA, kV_th, kI_th, Nat.not_lt_zero]
theorem a117_0 (hR : hB TR 1 x R m) (hA : hB TA 19 (x + 26) A m) (hl : R.1 0 6 = Int32.ofNat 1) (Z : OKA Y A h s) {k n : Nat} (hn : s 1 = Int32.ofNat n) (hm : n ≤ 24) (hk : k < n) : dN e (d + 5) 117 [.ref x, .int (Int32.ofNat k)] m = rI (if bx s k 5 = nM1 then nM1 else bx s k 6) m := by
  have hk2 : k < nbS s := by unfold nbS; rw [hn, nN_o (by omega)]; exact hk
  obtain ⟨⟨r0, r1, r2, r4, r3, r5, r6, r8, r9⟩, wb, hk24⟩ := Z.box hk2
  refine en117 (hR_c0 hR) fun t ht => ?_
  obtain ⟨u, rfl⟩ := fu 9 ht rfl
  simp -implicitDefEqProofs (disch := omega) only [↓reduceIte, q117_0, n154_0 hR hA hl Z hn hm hk, r6, bd_s, kI_r, kV_r, kL_r, rZ_1, rZ_0, rZ_b, rI_ite, bI_ite, ite_tf, ite_ft, bI0, bI1, bf_ite, nAdd, nMul, nLt, nEq, nEqM, nMEq, nMLt, nLtM, nMLt0, if_true, if_false, Nat.reduceAdd, Nat.reduceMul, Nat.zero_add, Nat.add_zero, decide_eq_true_eq, decide_true, decide_false, Nat.reduceEqDiff, Nat.reduceLT, Nat.reduceLeDiff, eq_self, Bool.false_eq_true, Bool.true_eq_false, Bool.not_eq_false', Bool.not_eq_true', ite_not, hR_c0 hR, hR_r0_0 hR, hR_r0_1 hR, hR_r0_2 hR, hR_r0_3 hR, hR_r0_4 hR, hR_r0_5 hR, hR_g0_6 hR, hA_c0 hA, hA_r0_0 hA, hA_r0_1 hA, hA_r0_2 hA, hA_r0_3 hA, hA_r0_4 hA, hA_r0_5 hA, hA_r0_6 hA, hA_r0_7 hA, hA_r0_8 hA, hA_r0_9 hA, hA_r0_10 hA, hA_r0_11 hA, hA_g0_12 hA, hA_g0_13 hA, hA_g0_14 hA, hA_g0_15 hA, hA_g0_16 hA, hA_c1 hA, hA_r1_0 hA, hA_r1_1 hA, hA_r1_2 hA, hA_r1_3 hA, hA_g1_4 hA, hA_a2 hA, hA_n2 hA, hA_a3 hA, hA_n3 hA, hA_a4 hA, hA_n4 hA, hA_a5 hA, hA_n5 hA, hA_c6 hA, hA_r6_0 hA, hA_r6_1 hA, hA_g6_2 hA, hA_a7 hA, hA_n7 hA, hA_a8 hA, hA_n8 hA, hA_a9 hA, hA_n9 hA, hA_a10 hA, hA_n10 hA, hA_a11 hA, hA_n11 hA, hA_a12 hA, hA_n12 hA, hA_a13 hA, hA_n13 hA, hA_a14 hA, hA_n14 hA, hA_a15 hA, hA_n15 hA, hA_a16 hA, hA_n16 hA, hA_a17 hA, hA_n17 hA, hA_a18 hA, hA_n18 hA, kV_th, kI_th, Nat.not_lt_zero]
theorem a113_1 (hR : hB TR 1 x R m) (hA : hB TA 19 (x + 26) A m) (hl : R.1 0 6 = Int32.ofNat 0) {y : Int32} : dN e (d + 5) 113 [.ref x, .int y] m = dTh 1 m := by
  refine en113 (hR_c0 hR) fun t ht => ?_
  obtain ⟨u, rfl⟩ := fu 19 ht rfl
  simp -implicitDefEqProofs (disch := omega) only [↓reduceIte, q113_0, n154_1 hR hA hl, bd_s, kI_r, kV_r, kL_r, rZ_1, rZ_0, rZ_b, rI_ite, bI_ite, ite_tf, ite_ft, bI0, bI1, bf_ite, nAdd, nMul, nLt, nEq, nEqM, nMEq, nMLt, nLtM, nMLt0, if_true, if_false, Nat.reduceAdd, Nat.reduceMul, Nat.zero_add, Nat.add_zero, decide_eq_true_eq, decide_true, decide_false, Nat.reduceEqDiff, Nat.reduceLT, Nat.reduceLeDiff, eq_self, Bool.false_eq_true, Bool.true_eq_false, Bool.not_eq_false', Bool.not_eq_true', ite_not, hR_c0 hR, hR_r0_0 hR, hR_r0_1 hR, hR_r0_2 hR, hR_r0_3 hR, hR_r0_4 hR, hR_r0_5 hR, hR_g0_6 hR, hA_c0 hA, hA_r0_0 hA, hA_r0_1 hA, hA_r0_2 hA, hA_r0_3 hA, hA_r0_4 hA, hA_r0_5 hA, hA_r0_6 hA, hA_r0_7 hA, hA_r0_8 hA, hA_r0_9 hA, hA_r0_10 hA, hA_r0_11 hA, hA_g0_12 hA, hA_g0_13 hA, hA_g0_14 hA, hA_g0_15 hA, hA_g0_16 hA, hA_c1 hA, hA_r1_0 hA, hA_r1_1 hA, hA_r1_2 hA, hA_r1_3 hA, hA_g1_4 hA, hA_a2 hA, hA_n2 hA, hA_a3 hA, hA_n3 hA, hA_a4 hA, hA_n4 hA, hA_a5 hA, hA_n5 hA, hA_c6 hA, hA_r6_0 hA, hA_r6_1 hA, hA_g6_2 hA, hA_a7 hA, hA_n7 hA, hA_a8 hA, hA_n8 hA, hA_a9 hA, hA_n9 hA, hA_a10 hA, hA_n10 hA, hA_a11 hA, hA_n11 hA, hA_a12 hA, hA_n12 hA, hA_a13 hA, hA_n13 hA, hA_a14 hA, hA_n14 hA, hA_a15 hA, hA_n15 hA, hA_a16 hA, hA_n16 hA, hA_a17 hA, hA_n17 hA, hA_a18 hA, hA_n18 hA, kV_th, kI_th, Nat.not_lt_zero]
theorem a113_2 (hR : hB TR 1 x R m) (hA : hB TA 19 (x + 26) A m) (hl : R.1 0 6 = Int32.ofNat 1) (Z : OKA Y A h s) {y : Int32} {n : Nat} (hn : s 1 = Int32.ofNat n) (hm : n ≤ 24) (hx : rngB 0 ((n : Int) - 1) y = false) : dN e (d + 5) 113 [.ref x, .int y] m = dTh 2 m := by
  refine en113 (hR_c0 hR) fun t ht => ?_
  obtain ⟨u, rfl⟩ := fu 9 ht rfl
  simp -implicitDefEqProofs (disch := omega) only [↓reduceIte, q113_0, n154_2 hR hA hl Z hn hm hx, bd_s, kI_r, kV_r, kL_r, rZ_1, rZ_0, rZ_b, rI_ite, bI_ite, ite_tf, ite_ft, bI0, bI1, bf_ite, nAdd, nMul, nLt, nEq, nEqM, nMEq, nMLt, nLtM, nMLt0, if_true, if_false, Nat.reduceAdd, Nat.reduceMul, Nat.zero_add, Nat.add_zero, decide_eq_true_eq, decide_true, decide_false, Nat.reduceEqDiff, Nat.reduceLT, Nat.reduceLeDiff, eq_self, Bool.false_eq_true, Bool.true_eq_false, Bool.not_eq_false', Bool.not_eq_true', ite_not, hR_c0 hR, hR_r0_0 hR, hR_r0_1 hR, hR_r0_2 hR, hR_r0_3 hR, hR_r0_4 hR, hR_r0_5 hR, hR_g0_6 hR, hA_c0 hA, hA_r0_0 hA, hA_r0_1 hA, hA_r0_2 hA, hA_r0_3 hA, hA_r0_4 hA, hA_r0_5 hA, hA_r0_6 hA, hA_r0_7 hA, hA_r0_8 hA, hA_r0_9 hA, hA_r0_10 hA, hA_r0_11 hA, hA_g0_12 hA, hA_g0_13 hA, hA_g0_14 hA, hA_g0_15 hA, hA_g0_16 hA, hA_c1 hA, hA_r1_0 hA, hA_r1_1 hA, hA_r1_2 hA, hA_r1_3 hA, hA_g1_4 hA, hA_a2 hA, hA_n2 hA, hA_a3 hA, hA_n3 hA, hA_a4 hA, hA_n4 hA, hA_a5 hA, hA_n5 hA, hA_c6 hA, hA_r6_0 hA, hA_r6_1 hA, hA_g6_2 hA, hA_a7 hA, hA_n7 hA, hA_a8 hA, hA_n8 hA, hA_a9 hA, hA_n9 hA, hA_a10 hA, hA_n10 hA, hA_a11 hA, hA_n11 hA, hA_a12 hA, hA_n12 hA, hA_a13 hA, hA_n13 hA, hA_a14 hA, hA_n14 hA, hA_a15 hA, hA_n15 hA, hA_a16 hA, hA_n16 hA, hA_a17 hA, hA_n17 hA, hA_a18 hA, hA_n18 hA, kV_th, kI_th, Nat.not_lt_zero]
theorem a113_0 (hR : hB TR 1 x R m) (hA : hB TA 19 (x + 26) A m) (hl : R.1 0 6 = Int32.ofNat 1) (Z : OKA Y A h s) {k n : Nat} (hn : s 1 = Int32.ofNat n) (hm : n ≤ 24) (hk : k < n) : dN e (d + 5) 113 [.ref x, .int (Int32.ofNat k)] m = rI (bI (gonB s k)) m := by
  have hk2 : k < nbS s := by unfold nbS; rw [hn, nN_o (by omega)]; exact hk
  obtain ⟨⟨r0, r1, r2, r4, r3, r5, r6, r8, r9⟩, wb, hk24⟩ := Z.box hk2
  have g := k_dest (e := e) (a := x + 26) (d := d + 3) (m := m) Z.z hk2
  rw [ov_self hA] at g
  refine en113 (hR_c0 hR) fun t ht => ?_
  obtain ⟨u, rfl⟩ := fu 9 ht rfl
  simp -implicitDefEqProofs (disch := omega) only [↓reduceIte, q113_0, n154_0 hR hA hl Z hn hm hk, g, bd_s, kI_r, kV_r, kL_r, rZ_1, rZ_0, rZ_b, rI_ite, bI_ite, ite_tf, ite_ft, bI0, bI1, bf_ite, nAdd, nMul, nLt, nEq, nEqM, nMEq, nMLt, nLtM, nMLt0, if_true, if_false, Nat.reduceAdd, Nat.reduceMul, Nat.zero_add, Nat.add_zero, decide_eq_true_eq, decide_true, decide_false, Nat.reduceEqDiff, Nat.reduceLT, Nat.reduceLeDiff, eq_self, Bool.false_eq_true, Bool.true_eq_false, Bool.not_eq_false', Bool.not_eq_true', ite_not, hR_c0 hR, hR_r0_0 hR, hR_r0_1 hR, hR_r0_2 hR, hR_r0_3 hR, hR_r0_4 hR, hR_r0_5 hR, hR_g0_6 hR, hA_c0 hA, hA_r0_0 hA, hA_r0_1 hA, hA_r0_2 hA, hA_r0_3 hA, hA_r0_4 hA, hA_r0_5 hA, hA_r0_6 hA, hA_r0_7 hA, hA_r0_8 hA, hA_r0_9 hA, hA_r0_10 hA, hA_r0_11 hA, hA_g0_12 hA, hA_g0_13 hA, hA_g0_14 hA, hA_g0_15 hA, hA_g0_16 hA, hA_c1 hA, hA_r1_0 hA, hA_r1_1 hA, hA_r1_2 hA, hA_r1_3 hA, hA_g1_4 hA, hA_a2 hA, hA_n2 hA, hA_a3 hA, hA_n3 hA, hA_a4 hA, hA_n4 hA, hA_a5 hA, hA_n5 hA, hA_c6 hA, hA_r6_0 hA, hA_r6_1 hA, hA_g6_2 hA, hA_a7 hA, hA_n7 hA, hA_a8 hA, hA_n8 hA, hA_a9 hA, hA_n9 hA, hA_a10 hA, hA_n10 hA, hA_a11 hA, hA_n11 hA, hA_a12 hA, hA_n12 hA, hA_a13 hA, hA_n13 hA, hA_a14 hA, hA_n14 hA, hA_a15 hA, hA_n15 hA, hA_a16 hA, hA_n16 hA, hA_a17 hA, hA_n17 hA, hA_a18 hA, hA_n18 hA, kV_th, kI_th, Nat.not_lt_zero]
theorem a114_1 (hR : hB TR 1 x R m) (hA : hB TA 19 (x + 26) A m) (hl : R.1 0 6 = Int32.ofNat 0) {y : Int32} : dN e (d + 5) 114 [.ref x, .int y] m = dTh 1 m := by
  refine en114 (hR_c0 hR) fun t ht => ?_
  obtain ⟨u, rfl⟩ := fu 19 ht rfl
  simp -implicitDefEqProofs (disch := omega) only [↓reduceIte, q114_0, n154_1 hR hA hl, bd_s, kI_r, kV_r, kL_r, rZ_1, rZ_0, rZ_b, rI_ite, bI_ite, ite_tf, ite_ft, bI0, bI1, bf_ite, nAdd, nMul, nLt, nEq, nEqM, nMEq, nMLt, nLtM, nMLt0, if_true, if_false, Nat.reduceAdd, Nat.reduceMul, Nat.zero_add, Nat.add_zero, decide_eq_true_eq, decide_true, decide_false, Nat.reduceEqDiff, Nat.reduceLT, Nat.reduceLeDiff, eq_self, Bool.false_eq_true, Bool.true_eq_false, Bool.not_eq_false', Bool.not_eq_true', ite_not, hR_c0 hR, hR_r0_0 hR, hR_r0_1 hR, hR_r0_2 hR, hR_r0_3 hR, hR_r0_4 hR, hR_r0_5 hR, hR_g0_6 hR, hA_c0 hA, hA_r0_0 hA, hA_r0_1 hA, hA_r0_2 hA, hA_r0_3 hA, hA_r0_4 hA, hA_r0_5 hA, hA_r0_6 hA, hA_r0_7 hA, hA_r0_8 hA, hA_r0_9 hA, hA_r0_10 hA, hA_r0_11 hA, hA_g0_12 hA, hA_g0_13 hA, hA_g0_14 hA, hA_g0_15 hA, hA_g0_16 hA, hA_c1 hA, hA_r1_0 hA, hA_r1_1 hA, hA_r1_2 hA, hA_r1_3 hA, hA_g1_4 hA, hA_a2 hA, hA_n2 hA, hA_a3 hA, hA_n3 hA, hA_a4 hA, hA_n4 hA, hA_a5 hA, hA_n5 hA, hA_c6 hA, hA_r6_0 hA, hA_r6_1 hA, hA_g6_2 hA, hA_a7 hA, hA_n7 hA, hA_a8 hA, hA_n8 hA, hA_a9 hA, hA_n9 hA, hA_a10 hA, hA_n10 hA, hA_a11 hA, hA_n11 hA, hA_a12 hA, hA_n12 hA, hA_a13 hA, hA_n13 hA, hA_a14 hA, hA_n14 hA, hA_a15 hA, hA_n15 hA, hA_a16 hA, hA_n16 hA, hA_a17 hA, hA_n17 hA, hA_a18 hA, hA_n18 hA, kV_th, kI_th, Nat.not_lt_zero]
theorem a114_2 (hR : hB TR 1 x R m) (hA : hB TA 19 (x + 26) A m) (hl : R.1 0 6 = Int32.ofNat 1) (Z : OKA Y A h s) {y : Int32} {n : Nat} (hn : s 1 = Int32.ofNat n) (hm : n ≤ 24) (hx : rngB 0 ((n : Int) - 1) y = false) : dN e (d + 5) 114 [.ref x, .int y] m = dTh 2 m := by
  refine en114 (hR_c0 hR) fun t ht => ?_
  obtain ⟨u, rfl⟩ := fu 9 ht rfl
  simp -implicitDefEqProofs (disch := omega) only [↓reduceIte, q114_0, n154_2 hR hA hl Z hn hm hx, bd_s, kI_r, kV_r, kL_r, rZ_1, rZ_0, rZ_b, rI_ite, bI_ite, ite_tf, ite_ft, bI0, bI1, bf_ite, nAdd, nMul, nLt, nEq, nEqM, nMEq, nMLt, nLtM, nMLt0, if_true, if_false, Nat.reduceAdd, Nat.reduceMul, Nat.zero_add, Nat.add_zero, decide_eq_true_eq, decide_true, decide_false, Nat.reduceEqDiff, Nat.reduceLT, Nat.reduceLeDiff, eq_self, Bool.false_eq_true, Bool.true_eq_false, Bool.not_eq_false', Bool.not_eq_true', ite_not, hR_c0 hR, hR_r0_0 hR, hR_r0_1 hR, hR_r0_2 hR, hR_r0_3 hR, hR_r0_4 hR, hR_r0_5 hR, hR_g0_6 hR, hA_c0 hA, hA_r0_0 hA, hA_r0_1 hA, hA_r0_2 hA, hA_r0_3 hA, hA_r0_4 hA, hA_r0_5 hA, hA_r0_6 hA, hA_r0_7 hA, hA_r0_8 hA, hA_r0_9 hA, hA_r0_10 hA, hA_r0_11 hA, hA_g0_12 hA, hA_g0_13 hA, hA_g0_14 hA, hA_g0_15 hA, hA_g0_16 hA, hA_c1 hA, hA_r1_0 hA, hA_r1_1 hA, hA_r1_2 hA, hA_r1_3 hA, hA_g1_4 hA, hA_a2 hA, hA_n2 hA, hA_a3 hA, hA_n3 hA, hA_a4 hA, hA_n4 hA, hA_a5 hA, hA_n5 hA, hA_c6 hA, hA_r6_0 hA, hA_r6_1 hA, hA_g6_2 hA, hA_a7 hA, hA_n7 hA, hA_a8 hA, hA_n8 hA, hA_a9 hA, hA_n9 hA, hA_a10 hA, hA_n10 hA, hA_a11 hA, hA_n11 hA, hA_a12 hA, hA_n12 hA, hA_a13 hA, hA_n13 hA, hA_a14 hA, hA_n14 hA, hA_a15 hA, hA_n15 hA, hA_a16 hA, hA_n16 hA, hA_a17 hA, hA_n17 hA, hA_a18 hA, hA_n18 hA, kV_th, kI_th, Nat.not_lt_zero]
theorem a114_0 (hR : hB TR 1 x R m) (hA : hB TA 19 (x + 26) A m) (hl : R.1 0 6 = Int32.ofNat 1) (Z : OKA Y A h s) {k n : Nat} (hn : s 1 = Int32.ofNat n) (hm : n ≤ 24) (hk : k < n) : dN e (d + 5) 114 [.ref x, .int (Int32.ofNat k)] m = rI (bI (selB s k)) m := by
  have hk2 : k < nbS s := by unfold nbS; rw [hn, nN_o (by omega)]; exact hk
  obtain ⟨⟨r0, r1, r2, r4, r3, r5, r6, r8, r9⟩, wb, hk24⟩ := Z.box hk2
  have g := k_seal (e := e) (a := x + 26) (d := d + 3) (m := m) Z.z hk2
  rw [ov_self hA] at g
  refine en114 (hR_c0 hR) fun t ht => ?_
  obtain ⟨u, rfl⟩ := fu 9 ht rfl
  simp -implicitDefEqProofs (disch := omega) only [↓reduceIte, q114_0, n154_0 hR hA hl Z hn hm hk, g, bd_s, kI_r, kV_r, kL_r, rZ_1, rZ_0, rZ_b, rI_ite, bI_ite, ite_tf, ite_ft, bI0, bI1, bf_ite, nAdd, nMul, nLt, nEq, nEqM, nMEq, nMLt, nLtM, nMLt0, if_true, if_false, Nat.reduceAdd, Nat.reduceMul, Nat.zero_add, Nat.add_zero, decide_eq_true_eq, decide_true, decide_false, Nat.reduceEqDiff, Nat.reduceLT, Nat.reduceLeDiff, eq_self, Bool.false_eq_true, Bool.true_eq_false, Bool.not_eq_false', Bool.not_eq_true', ite_not, hR_c0 hR, hR_r0_0 hR, hR_r0_1 hR, hR_r0_2 hR, hR_r0_3 hR, hR_r0_4 hR, hR_r0_5 hR, hR_g0_6 hR, hA_c0 hA, hA_r0_0 hA, hA_r0_1 hA, hA_r0_2 hA, hA_r0_3 hA, hA_r0_4 hA, hA_r0_5 hA, hA_r0_6 hA, hA_r0_7 hA, hA_r0_8 hA, hA_r0_9 hA, hA_r0_10 hA, hA_r0_11 hA, hA_g0_12 hA, hA_g0_13 hA, hA_g0_14 hA, hA_g0_15 hA, hA_g0_16 hA, hA_c1 hA, hA_r1_0 hA, hA_r1_1 hA, hA_r1_2 hA, hA_r1_3 hA, hA_g1_4 hA, hA_a2 hA, hA_n2 hA, hA_a3 hA, hA_n3 hA, hA_a4 hA, hA_n4 hA, hA_a5 hA, hA_n5 hA, hA_c6 hA, hA_r6_0 hA, hA_r6_1 hA, hA_g6_2 hA, hA_a7 hA, hA_n7 hA, hA_a8 hA, hA_n8 hA, hA_a9 hA, hA_n9 hA, hA_a10 hA, hA_n10 hA, hA_a11 hA, hA_n11 hA, hA_a12 hA, hA_n12 hA, hA_a13 hA, hA_n13 hA, hA_a14 hA, hA_n14 hA, hA_a15 hA, hA_n15 hA, hA_a16 hA, hA_n16 hA, hA_a17 hA, hA_n17 hA, hA_a18 hA, hA_n18 hA, kV_th, kI_th, Nat.not_lt_zero]
theorem a118_1 (hR : hB TR 1 x R m) (hA : hB TA 19 (x + 26) A m) (hl : R.1 0 6 = Int32.ofNat 0) {y : Int32} : dN e (d + 5) 118 [.ref x, .int y] m = dTh 1 m := by
  refine en118 (hR_c0 hR) fun t ht => ?_
  obtain ⟨u, rfl⟩ := fu 19 ht rfl
  simp -implicitDefEqProofs (disch := omega) only [↓reduceIte, q118_0, n154_1 hR hA hl, bd_s, kI_r, kV_r, kL_r, rZ_1, rZ_0, rZ_b, rI_ite, bI_ite, ite_tf, ite_ft, bI0, bI1, bf_ite, nAdd, nMul, nLt, nEq, nEqM, nMEq, nMLt, nLtM, nMLt0, if_true, if_false, Nat.reduceAdd, Nat.reduceMul, Nat.zero_add, Nat.add_zero, decide_eq_true_eq, decide_true, decide_false, Nat.reduceEqDiff, Nat.reduceLT, Nat.reduceLeDiff, eq_self, Bool.false_eq_true, Bool.true_eq_false, Bool.not_eq_false', Bool.not_eq_true', ite_not, hR_c0 hR, hR_r0_0 hR, hR_r0_1 hR, hR_r0_2 hR, hR_r0_3 hR, hR_r0_4 hR, hR_r0_5 hR, hR_g0_6 hR, hA_c0 hA, hA_r0_0 hA, hA_r0_1 hA, hA_r0_2 hA, hA_r0_3 hA, hA_r0_4 hA, hA_r0_5 hA, hA_r0_6 hA, hA_r0_7 hA, hA_r0_8 hA, hA_r0_9 hA, hA_r0_10 hA, hA_r0_11 hA, hA_g0_12 hA, hA_g0_13 hA, hA_g0_14 hA, hA_g0_15 hA, hA_g0_16 hA, hA_c1 hA, hA_r1_0 hA, hA_r1_1 hA, hA_r1_2 hA, hA_r1_3 hA, hA_g1_4 hA, hA_a2 hA, hA_n2 hA, hA_a3 hA, hA_n3 hA, hA_a4 hA, hA_n4 hA, hA_a5 hA, hA_n5 hA, hA_c6 hA, hA_r6_0 hA, hA_r6_1 hA, hA_g6_2 hA, hA_a7 hA, hA_n7 hA, hA_a8 hA, hA_n8 hA, hA_a9 hA, hA_n9 hA, hA_a10 hA, hA_n10 hA, hA_a11 hA, hA_n11 hA, hA_a12 hA, hA_n12 hA, hA_a13 hA, hA_n13 hA, hA_a14 hA, hA_n14 hA, hA_a15 hA, hA_n15 hA, hA_a16 hA, hA_n16 hA, hA_a17 hA, hA_n17 hA, hA_a18 hA, hA_n18 hA, kV_th, kI_th, Nat.not_lt_zero]
theorem a118_2 (hR : hB TR 1 x R m) (hA : hB TA 19 (x + 26) A m) (hl : R.1 0 6 = Int32.ofNat 1) (Z : OKA Y A h s) {y : Int32} {n : Nat} (hn : s 1 = Int32.ofNat n) (hm : n ≤ 24) (hx : rngB 0 ((n : Int) - 1) y = false) : dN e (d + 5) 118 [.ref x, .int y] m = dTh 2 m := by
  refine en118 (hR_c0 hR) fun t ht => ?_
  obtain ⟨u, rfl⟩ := fu 9 ht rfl
  simp -implicitDefEqProofs (disch := omega) only [↓reduceIte, q118_0, n154_2 hR hA hl Z hn hm hx, bd_s, kI_r, kV_r, kL_r, rZ_1, rZ_0, rZ_b, rI_ite, bI_ite, ite_tf, ite_ft, bI0, bI1, bf_ite, nAdd, nMul, nLt, nEq, nEqM, nMEq, nMLt, nLtM, nMLt0, if_true, if_false, Nat.reduceAdd, Nat.reduceMul, Nat.zero_add, Nat.add_zero, decide_eq_true_eq, decide_true, decide_false, Nat.reduceEqDiff, Nat.reduceLT, Nat.reduceLeDiff, eq_self, Bool.false_eq_true, Bool.true_eq_false, Bool.not_eq_false', Bool.not_eq_true', ite_not, hR_c0 hR, hR_r0_0 hR, hR_r0_1 hR, hR_r0_2 hR, hR_r0_3 hR, hR_r0_4 hR, hR_r0_5 hR, hR_g0_6 hR, hA_c0 hA, hA_r0_0 hA, hA_r0_1 hA, hA_r0_2 hA, hA_r0_3 hA, hA_r0_4 hA, hA_r0_5 hA, hA_r0_6 hA, hA_r0_7 hA, hA_r0_8 hA, hA_r0_9 hA, hA_r0_10 hA, hA_r0_11 hA, hA_g0_12 hA, hA_g0_13 hA, hA_g0_14 hA, hA_g0_15 hA, hA_g0_16 hA, hA_c1 hA, hA_r1_0 hA, hA_r1_1 hA, hA_r1_2 hA, hA_r1_3 hA, hA_g1_4 hA, hA_a2 hA, hA_n2 hA, hA_a3 hA, hA_n3 hA, hA_a4 hA, hA_n4 hA, hA_a5 hA, hA_n5 hA, hA_c6 hA, hA_r6_0 hA, hA_r6_1 hA, hA_g6_2 hA, hA_a7 hA, hA_n7 hA, hA_a8 hA, hA_n8 hA, hA_a9 hA, hA_n9 hA, hA_a10 hA, hA_n10 hA, hA_a11 hA, hA_n11 hA, hA_a12 hA, hA_n12 hA, hA_a13 hA, hA_n13 hA, hA_a14 hA, hA_n14 hA, hA_a15 hA, hA_n15 hA, hA_a16 hA, hA_n16 hA, hA_a17 hA, hA_n17 hA, hA_a18 hA, hA_n18 hA, kV_th, kI_th, Nat.not_lt_zero]
theorem a118_0 (hR : hB TR 1 x R m) (hA : hB TA 19 (x + 26) A m) (hl : R.1 0 6 = Int32.ofNat 1) (Z : OKA Y A h s) {k n : Nat} (hn : s 1 = Int32.ofNat n) (hm : n ≤ 24) (hk : k < n) : dN e (d + 5) 118 [.ref x, .int (Int32.ofNat k)] m = rI (dueS s h k) m := by
  have hk2 : k < nbS s := by unfold nbS; rw [hn, nN_o (by omega)]; exact hk
  obtain ⟨⟨r0, r1, r2, r4, r3, r5, r6, r8, r9⟩, wb, hk24⟩ := Z.box hk2
  have g := k_due (e := e) (a := x + 26) (d := d + 3) (m := m) Z.z hk2
  rw [ov_self hA] at g
  refine en118 (hR_c0 hR) fun t ht => ?_
  obtain ⟨u, rfl⟩ := fu 9 ht rfl
  simp -implicitDefEqProofs (disch := omega) only [↓reduceIte, q118_0, n154_0 hR hA hl Z hn hm hk, g, bd_s, kI_r, kV_r, kL_r, rZ_1, rZ_0, rZ_b, rI_ite, bI_ite, ite_tf, ite_ft, bI0, bI1, bf_ite, nAdd, nMul, nLt, nEq, nEqM, nMEq, nMLt, nLtM, nMLt0, if_true, if_false, Nat.reduceAdd, Nat.reduceMul, Nat.zero_add, Nat.add_zero, decide_eq_true_eq, decide_true, decide_false, Nat.reduceEqDiff, Nat.reduceLT, Nat.reduceLeDiff, eq_self, Bool.false_eq_true, Bool.true_eq_false, Bool.not_eq_false', Bool.not_eq_true', ite_not, hR_c0 hR, hR_r0_0 hR, hR_r0_1 hR, hR_r0_2 hR, hR_r0_3 hR, hR_r0_4 hR, hR_r0_5 hR, hR_g0_6 hR, hA_c0 hA, hA_r0_0 hA, hA_r0_1 hA, hA_r0_2 hA, hA_r0_3 hA, hA_r0_4 hA, hA_r0_5 hA, hA_r0_6 hA, hA_r0_7 hA, hA_r0_8 hA, hA_r0_9 hA, hA_r0_10 hA, hA_r0_11 hA, hA_g0_12 hA, hA_g0_13 hA, hA_g0_14 hA, hA_g0_15 hA, hA_g0_16 hA, hA_c1 hA, hA_r1_0 hA, hA_r1_1 hA, hA_r1_2 hA, hA_r1_3 hA, hA_g1_4 hA, hA_a2 hA, hA_n2 hA, hA_a3 hA, hA_n3 hA, hA_a4 hA, hA_n4 hA, hA_a5 hA, hA_n5 hA, hA_c6 hA, hA_r6_0 hA, hA_r6_1 hA, hA_g6_2 hA, hA_a7 hA, hA_n7 hA, hA_a8 hA, hA_n8 hA, hA_a9 hA, hA_n9 hA, hA_a10 hA, hA_n10 hA, hA_a11 hA, hA_n11 hA, hA_a12 hA, hA_n12 hA, hA_a13 hA, hA_n13 hA, hA_a14 hA, hA_n14 hA, hA_a15 hA, hA_n15 hA, hA_a16 hA, hA_n16 hA, hA_a17 hA, hA_n17 hA, hA_a18 hA, hA_n18 hA, kV_th, kI_th, Nat.not_lt_zero]
theorem a120_1 (hR : hB TR 1 x R m) (hA : hB TA 19 (x + 26) A m) (hl : R.1 0 6 = Int32.ofNat 0) {y : Int32} : dN e (d + 5) 120 [.ref x, .int y] m = dTh 1 m := by
  refine en120 (hR_c0 hR) fun t ht => ?_
  obtain ⟨u, rfl⟩ := fu 19 ht rfl
  simp -implicitDefEqProofs (disch := omega) only [↓reduceIte, q120_0, n154_1 hR hA hl, bd_s, kI_r, kV_r, kL_r, rZ_1, rZ_0, rZ_b, rI_ite, bI_ite, ite_tf, ite_ft, bI0, bI1, bf_ite, nAdd, nMul, nLt, nEq, nEqM, nMEq, nMLt, nLtM, nMLt0, if_true, if_false, Nat.reduceAdd, Nat.reduceMul, Nat.zero_add, Nat.add_zero, decide_eq_true_eq, decide_true, decide_false, Nat.reduceEqDiff, Nat.reduceLT, Nat.reduceLeDiff, eq_self, Bool.false_eq_true, Bool.true_eq_false, Bool.not_eq_false', Bool.not_eq_true', ite_not, hR_c0 hR, hR_r0_0 hR, hR_r0_1 hR, hR_r0_2 hR, hR_r0_3 hR, hR_r0_4 hR, hR_r0_5 hR, hR_g0_6 hR, hA_c0 hA, hA_r0_0 hA, hA_r0_1 hA, hA_r0_2 hA, hA_r0_3 hA, hA_r0_4 hA, hA_r0_5 hA, hA_r0_6 hA, hA_r0_7 hA, hA_r0_8 hA, hA_r0_9 hA, hA_r0_10 hA, hA_r0_11 hA, hA_g0_12 hA, hA_g0_13 hA, hA_g0_14 hA, hA_g0_15 hA, hA_g0_16 hA, hA_c1 hA, hA_r1_0 hA, hA_r1_1 hA, hA_r1_2 hA, hA_r1_3 hA, hA_g1_4 hA, hA_a2 hA, hA_n2 hA, hA_a3 hA, hA_n3 hA, hA_a4 hA, hA_n4 hA, hA_a5 hA, hA_n5 hA, hA_c6 hA, hA_r6_0 hA, hA_r6_1 hA, hA_g6_2 hA, hA_a7 hA, hA_n7 hA, hA_a8 hA, hA_n8 hA, hA_a9 hA, hA_n9 hA, hA_a10 hA, hA_n10 hA, hA_a11 hA, hA_n11 hA, hA_a12 hA, hA_n12 hA, hA_a13 hA, hA_n13 hA, hA_a14 hA, hA_n14 hA, hA_a15 hA, hA_n15 hA, hA_a16 hA, hA_n16 hA, hA_a17 hA, hA_n17 hA, hA_a18 hA, hA_n18 hA, kV_th, kI_th, Nat.not_lt_zero]
theorem a120_2 (hR : hB TR 1 x R m) (hA : hB TA 19 (x + 26) A m) (hl : R.1 0 6 = Int32.ofNat 1) (Z : OKA Y A h s) {y : Int32} {n : Nat} (hn : s 1 = Int32.ofNat n) (hm : n ≤ 24) (hx : rngB 0 ((n : Int) - 1) y = false) : dN e (d + 5) 120 [.ref x, .int y] m = dTh 2 m := by
  refine en120 (hR_c0 hR) fun t ht => ?_
  obtain ⟨u, rfl⟩ := fu 9 ht rfl
  simp -implicitDefEqProofs (disch := omega) only [↓reduceIte, q120_0, n154_2 hR hA hl Z hn hm hx, bd_s, kI_r, kV_r, kL_r, rZ_1, rZ_0, rZ_b, rI_ite, bI_ite, ite_tf, ite_ft, bI0, bI1, bf_ite, nAdd, nMul, nLt, nEq, nEqM, nMEq, nMLt, nLtM, nMLt0, if_true, if_false, Nat.reduceAdd, Nat.reduceMul, Nat.zero_add, Nat.add_zero, decide_eq_true_eq, decide_true, decide_false, Nat.reduceEqDiff, Nat.reduceLT, Nat.reduceLeDiff, eq_self, Bool.false_eq_true, Bool.true_eq_false, Bool.not_eq_false', Bool.not_eq_true', ite_not, hR_c0 hR, hR_r0_0 hR, hR_r0_1 hR, hR_r0_2 hR, hR_r0_3 hR, hR_r0_4 hR, hR_r0_5 hR, hR_g0_6 hR, hA_c0 hA, hA_r0_0 hA, hA_r0_1 hA, hA_r0_2 hA, hA_r0_3 hA, hA_r0_4 hA, hA_r0_5 hA, hA_r0_6 hA, hA_r0_7 hA, hA_r0_8 hA, hA_r0_9 hA, hA_r0_10 hA, hA_r0_11 hA, hA_g0_12 hA, hA_g0_13 hA, hA_g0_14 hA, hA_g0_15 hA, hA_g0_16 hA, hA_c1 hA, hA_r1_0 hA, hA_r1_1 hA, hA_r1_2 hA, hA_r1_3 hA, hA_g1_4 hA, hA_a2 hA, hA_n2 hA, hA_a3 hA, hA_n3 hA, hA_a4 hA, hA_n4 hA, hA_a5 hA, hA_n5 hA, hA_c6 hA, hA_r6_0 hA, hA_r6_1 hA, hA_g6_2 hA, hA_a7 hA, hA_n7 hA, hA_a8 hA, hA_n8 hA, hA_a9 hA, hA_n9 hA, hA_a10 hA, hA_n10 hA, hA_a11 hA, hA_n11 hA, hA_a12 hA, hA_n12 hA, hA_a13 hA, hA_n13 hA, hA_a14 hA, hA_n14 hA, hA_a15 hA, hA_n15 hA, hA_a16 hA, hA_n16 hA, hA_a17 hA, hA_n17 hA, hA_a18 hA, hA_n18 hA, kV_th, kI_th, Nat.not_lt_zero]
theorem a120_0 (hR : hB TR 1 x R m) (hA : hB TA 19 (x + 26) A m) (hl : R.1 0 6 = Int32.ofNat 1) (Z : OKA Y A h s) {k n : Nat} (hn : s 1 = Int32.ofNat n) (hm : n ≤ 24) (hk : k < n) : dN e (d + 5) 120 [.ref x, .int (Int32.ofNat k)] m = rI (hinS s h k) m := by
  have hk2 : k < nbS s := by unfold nbS; rw [hn, nN_o (by omega)]; exact hk
  obtain ⟨⟨r0, r1, r2, r4, r3, r5, r6, r8, r9⟩, wb, hk24⟩ := Z.box hk2
  have g := k_hin (e := e) (a := x + 26) (d := d + 2) (m := m) Z.z hk2
  rw [ov_self hA] at g
  refine en120 (hR_c0 hR) fun t ht => ?_
  obtain ⟨u, rfl⟩ := fu 9 ht rfl
  simp -implicitDefEqProofs (disch := omega) only [↓reduceIte, q120_0, n154_0 hR hA hl Z hn hm hk, g, bd_s, kI_r, kV_r, kL_r, rZ_1, rZ_0, rZ_b, rI_ite, bI_ite, ite_tf, ite_ft, bI0, bI1, bf_ite, nAdd, nMul, nLt, nEq, nEqM, nMEq, nMLt, nLtM, nMLt0, if_true, if_false, Nat.reduceAdd, Nat.reduceMul, Nat.zero_add, Nat.add_zero, decide_eq_true_eq, decide_true, decide_false, Nat.reduceEqDiff, Nat.reduceLT, Nat.reduceLeDiff, eq_self, Bool.false_eq_true, Bool.true_eq_false, Bool.not_eq_false', Bool.not_eq_true', ite_not, hR_c0 hR, hR_r0_0 hR, hR_r0_1 hR, hR_r0_2 hR, hR_r0_3 hR, hR_r0_4 hR, hR_r0_5 hR, hR_g0_6 hR, hA_c0 hA, hA_r0_0 hA, hA_r0_1 hA, hA_r0_2 hA, hA_r0_3 hA, hA_r0_4 hA, hA_r0_5 hA, hA_r0_6 hA, hA_r0_7 hA, hA_r0_8 hA, hA_r0_9 hA, hA_r0_10 hA, hA_r0_11 hA, hA_g0_12 hA, hA_g0_13 hA, hA_g0_14 hA, hA_g0_15 hA, hA_g0_16 hA, hA_c1 hA, hA_r1_0 hA, hA_r1_1 hA, hA_r1_2 hA, hA_r1_3 hA, hA_g1_4 hA, hA_a2 hA, hA_n2 hA, hA_a3 hA, hA_n3 hA, hA_a4 hA, hA_n4 hA, hA_a5 hA, hA_n5 hA, hA_c6 hA, hA_r6_0 hA, hA_r6_1 hA, hA_g6_2 hA, hA_a7 hA, hA_n7 hA, hA_a8 hA, hA_n8 hA, hA_a9 hA, hA_n9 hA, hA_a10 hA, hA_n10 hA, hA_a11 hA, hA_n11 hA, hA_a12 hA, hA_n12 hA, hA_a13 hA, hA_n13 hA, hA_a14 hA, hA_n14 hA, hA_a15 hA, hA_n15 hA, hA_a16 hA, hA_n16 hA, hA_a17 hA, hA_n17 hA, hA_a18 hA, hA_n18 hA, kV_th, kI_th, Nat.not_lt_zero]
theorem a106_1 (hR : hB TR 1 x R m) (hA : hB TA 19 (x + 26) A m) (hl : R.1 0 6 = Int32.ofNat 0) {y : Int32} : dN e (d + 5) 106 [.ref x, .int y] m = dTh 1 m := by
  refine en106 (hR_c0 hR) fun t ht => ?_
  obtain ⟨u, rfl⟩ := fu 19 ht rfl
  simp -implicitDefEqProofs (disch := omega) only [↓reduceIte, q106_0, n153_1 hR hA hl, bd_s, kI_r, kV_r, kL_r, rZ_1, rZ_0, rZ_b, rI_ite, bI_ite, ite_tf, ite_ft, bI0, bI1, bf_ite, nAdd, nMul, nLt, nEq, nEqM, nMEq, nMLt, nLtM, nMLt0, if_true, if_false, Nat.reduceAdd, Nat.reduceMul, Nat.zero_add, Nat.add_zero, decide_eq_true_eq, decide_true, decide_false, Nat.reduceEqDiff, Nat.reduceLT, Nat.reduceLeDiff, eq_self, Bool.false_eq_true, Bool.true_eq_false, Bool.not_eq_false', Bool.not_eq_true', ite_not, hR_c0 hR, hR_r0_0 hR, hR_r0_1 hR, hR_r0_2 hR, hR_r0_3 hR, hR_r0_4 hR, hR_r0_5 hR, hR_g0_6 hR, hA_c0 hA, hA_r0_0 hA, hA_r0_1 hA, hA_r0_2 hA, hA_r0_3 hA, hA_r0_4 hA, hA_r0_5 hA, hA_r0_6 hA, hA_r0_7 hA, hA_r0_8 hA, hA_r0_9 hA, hA_r0_10 hA, hA_r0_11 hA, hA_g0_12 hA, hA_g0_13 hA, hA_g0_14 hA, hA_g0_15 hA, hA_g0_16 hA, hA_c1 hA, hA_r1_0 hA, hA_r1_1 hA, hA_r1_2 hA, hA_r1_3 hA, hA_g1_4 hA, hA_a2 hA, hA_n2 hA, hA_a3 hA, hA_n3 hA, hA_a4 hA, hA_n4 hA, hA_a5 hA, hA_n5 hA, hA_c6 hA, hA_r6_0 hA, hA_r6_1 hA, hA_g6_2 hA, hA_a7 hA, hA_n7 hA, hA_a8 hA, hA_n8 hA, hA_a9 hA, hA_n9 hA, hA_a10 hA, hA_n10 hA, hA_a11 hA, hA_n11 hA, hA_a12 hA, hA_n12 hA, hA_a13 hA, hA_n13 hA, hA_a14 hA, hA_n14 hA, hA_a15 hA, hA_n15 hA, hA_a16 hA, hA_n16 hA, hA_a17 hA, hA_n17 hA, hA_a18 hA, hA_n18 hA, kV_th, kI_th, Nat.not_lt_zero]
theorem a106_2 (hR : hB TR 1 x R m) (hA : hB TA 19 (x + 26) A m) (hl : R.1 0 6 = Int32.ofNat 1) (Z : OKA Y A h s) {y : Int32} {n : Nat} (hn : h 2 = Int32.ofNat n) (hm : n ≤ 24) (hx : rngB 0 ((n : Int) - 1) y = false) : dN e (d + 5) 106 [.ref x, .int y] m = dTh 2 m := by
  refine en106 (hR_c0 hR) fun t ht => ?_
  obtain ⟨u, rfl⟩ := fu 9 ht rfl
  simp -implicitDefEqProofs (disch := omega) only [↓reduceIte, q106_0, n153_2 hR hA hl Z hn hm hx, bd_s, kI_r, kV_r, kL_r, rZ_1, rZ_0, rZ_b, rI_ite, bI_ite, ite_tf, ite_ft, bI0, bI1, bf_ite, nAdd, nMul, nLt, nEq, nEqM, nMEq, nMLt, nLtM, nMLt0, if_true, if_false, Nat.reduceAdd, Nat.reduceMul, Nat.zero_add, Nat.add_zero, decide_eq_true_eq, decide_true, decide_false, Nat.reduceEqDiff, Nat.reduceLT, Nat.reduceLeDiff, eq_self, Bool.false_eq_true, Bool.true_eq_false, Bool.not_eq_false', Bool.not_eq_true', ite_not, hR_c0 hR, hR_r0_0 hR, hR_r0_1 hR, hR_r0_2 hR, hR_r0_3 hR, hR_r0_4 hR, hR_r0_5 hR, hR_g0_6 hR, hA_c0 hA, hA_r0_0 hA, hA_r0_1 hA, hA_r0_2 hA, hA_r0_3 hA, hA_r0_4 hA, hA_r0_5 hA, hA_r0_6 hA, hA_r0_7 hA, hA_r0_8 hA, hA_r0_9 hA, hA_r0_10 hA, hA_r0_11 hA, hA_g0_12 hA, hA_g0_13 hA, hA_g0_14 hA, hA_g0_15 hA, hA_g0_16 hA, hA_c1 hA, hA_r1_0 hA, hA_r1_1 hA, hA_r1_2 hA, hA_r1_3 hA, hA_g1_4 hA, hA_a2 hA, hA_n2 hA, hA_a3 hA, hA_n3 hA, hA_a4 hA, hA_n4 hA, hA_a5 hA, hA_n5 hA, hA_c6 hA, hA_r6_0 hA, hA_r6_1 hA, hA_g6_2 hA, hA_a7 hA, hA_n7 hA, hA_a8 hA, hA_n8 hA, hA_a9 hA, hA_n9 hA, hA_a10 hA, hA_n10 hA, hA_a11 hA, hA_n11 hA, hA_a12 hA, hA_n12 hA, hA_a13 hA, hA_n13 hA, hA_a14 hA, hA_n14 hA, hA_a15 hA, hA_n15 hA, hA_a16 hA, hA_n16 hA, hA_a17 hA, hA_n17 hA, hA_a18 hA, hA_n18 hA, kV_th, kI_th, Nat.not_lt_zero]
theorem a106_0 (hR : hB TR 1 x R m) (hA : hB TA 19 (x + 26) A m) (hl : R.1 0 6 = Int32.ofNat 1) (Z : OKA Y A h s) {k n : Nat} (hn : h 2 = Int32.ofNat n) (hm : n ≤ 24) (hk : k < n) : dN e (d + 5) 106 [.ref x, .int (Int32.ofNat k)] m = rI (h (94 + k)) m := by
  have hc2 : k < nN (h 2) := by rw [hn, nN_o (by omega)]; exact hk
  obtain ⟨f1, f2, f3, f4⟩ := Z.1.2.2.2.1.2.2.2.2.1 k hc2
  have hk8 : k < 8 := by have := Z.2.2.2.2.1.2.2; omega
  refine en106 (hR_c0 hR) fun t ht => ?_
  obtain ⟨u, rfl⟩ := fu 9 ht rfl
  simp -implicitDefEqProofs (disch := omega) only [↓reduceIte, q106_0, n153_0 hR hA hl Z hn hm hk, f1, bd_s, kI_r, kV_r, kL_r, rZ_1, rZ_0, rZ_b, rI_ite, bI_ite, ite_tf, ite_ft, bI0, bI1, bf_ite, nAdd, nMul, nLt, nEq, nEqM, nMEq, nMLt, nLtM, nMLt0, if_true, if_false, Nat.reduceAdd, Nat.reduceMul, Nat.zero_add, Nat.add_zero, decide_eq_true_eq, decide_true, decide_false, Nat.reduceEqDiff, Nat.reduceLT, Nat.reduceLeDiff, eq_self, Bool.false_eq_true, Bool.true_eq_false, Bool.not_eq_false', Bool.not_eq_true', ite_not, hR_c0 hR, hR_r0_0 hR, hR_r0_1 hR, hR_r0_2 hR, hR_r0_3 hR, hR_r0_4 hR, hR_r0_5 hR, hR_g0_6 hR, hA_c0 hA, hA_r0_0 hA, hA_r0_1 hA, hA_r0_2 hA, hA_r0_3 hA, hA_r0_4 hA, hA_r0_5 hA, hA_r0_6 hA, hA_r0_7 hA, hA_r0_8 hA, hA_r0_9 hA, hA_r0_10 hA, hA_r0_11 hA, hA_g0_12 hA, hA_g0_13 hA, hA_g0_14 hA, hA_g0_15 hA, hA_g0_16 hA, hA_c1 hA, hA_r1_0 hA, hA_r1_1 hA, hA_r1_2 hA, hA_r1_3 hA, hA_g1_4 hA, hA_a2 hA, hA_n2 hA, hA_a3 hA, hA_n3 hA, hA_a4 hA, hA_n4 hA, hA_a5 hA, hA_n5 hA, hA_c6 hA, hA_r6_0 hA, hA_r6_1 hA, hA_g6_2 hA, hA_a7 hA, hA_n7 hA, hA_a8 hA, hA_n8 hA, hA_a9 hA, hA_n9 hA, hA_a10 hA, hA_n10 hA, hA_a11 hA, hA_n11 hA, hA_a12 hA, hA_n12 hA, hA_a13 hA, hA_n13 hA, hA_a14 hA, hA_n14 hA, hA_a15 hA, hA_n15 hA, hA_a16 hA, hA_n16 hA, hA_a17 hA, hA_n17 hA, hA_a18 hA, hA_n18 hA, kV_th, kI_th, Nat.not_lt_zero]
theorem a107_1 (hR : hB TR 1 x R m) (hA : hB TA 19 (x + 26) A m) (hl : R.1 0 6 = Int32.ofNat 0) {y : Int32} : dN e (d + 5) 107 [.ref x, .int y] m = dTh 1 m := by
  refine en107 (hR_c0 hR) fun t ht => ?_
  obtain ⟨u, rfl⟩ := fu 19 ht rfl
  simp -implicitDefEqProofs (disch := omega) only [↓reduceIte, q107_0, n153_1 hR hA hl, bd_s, kI_r, kV_r, kL_r, rZ_1, rZ_0, rZ_b, rI_ite, bI_ite, ite_tf, ite_ft, bI0, bI1, bf_ite, nAdd, nMul, nLt, nEq, nEqM, nMEq, nMLt, nLtM, nMLt0, if_true, if_false, Nat.reduceAdd, Nat.reduceMul, Nat.zero_add, Nat.add_zero, decide_eq_true_eq, decide_true, decide_false, Nat.reduceEqDiff, Nat.reduceLT, Nat.reduceLeDiff, eq_self, Bool.false_eq_true, Bool.true_eq_false, Bool.not_eq_false', Bool.not_eq_true', ite_not, hR_c0 hR, hR_r0_0 hR, hR_r0_1 hR, hR_r0_2 hR, hR_r0_3 hR, hR_r0_4 hR, hR_r0_5 hR, hR_g0_6 hR, hA_c0 hA, hA_r0_0 hA, hA_r0_1 hA, hA_r0_2 hA, hA_r0_3 hA, hA_r0_4 hA, hA_r0_5 hA, hA_r0_6 hA, hA_r0_7 hA, hA_r0_8 hA, hA_r0_9 hA, hA_r0_10 hA, hA_r0_11 hA, hA_g0_12 hA, hA_g0_13 hA, hA_g0_14 hA, hA_g0_15 hA, hA_g0_16 hA, hA_c1 hA, hA_r1_0 hA, hA_r1_1 hA, hA_r1_2 hA, hA_r1_3 hA, hA_g1_4 hA, hA_a2 hA, hA_n2 hA, hA_a3 hA, hA_n3 hA, hA_a4 hA, hA_n4 hA, hA_a5 hA, hA_n5 hA, hA_c6 hA, hA_r6_0 hA, hA_r6_1 hA, hA_g6_2 hA, hA_a7 hA, hA_n7 hA, hA_a8 hA, hA_n8 hA, hA_a9 hA, hA_n9 hA, hA_a10 hA, hA_n10 hA, hA_a11 hA, hA_n11 hA, hA_a12 hA, hA_n12 hA, hA_a13 hA, hA_n13 hA, hA_a14 hA, hA_n14 hA, hA_a15 hA, hA_n15 hA, hA_a16 hA, hA_n16 hA, hA_a17 hA, hA_n17 hA, hA_a18 hA, hA_n18 hA, kV_th, kI_th, Nat.not_lt_zero]
theorem a107_2 (hR : hB TR 1 x R m) (hA : hB TA 19 (x + 26) A m) (hl : R.1 0 6 = Int32.ofNat 1) (Z : OKA Y A h s) {y : Int32} {n : Nat} (hn : h 2 = Int32.ofNat n) (hm : n ≤ 24) (hx : rngB 0 ((n : Int) - 1) y = false) : dN e (d + 5) 107 [.ref x, .int y] m = dTh 2 m := by
  refine en107 (hR_c0 hR) fun t ht => ?_
  obtain ⟨u, rfl⟩ := fu 9 ht rfl
  simp -implicitDefEqProofs (disch := omega) only [↓reduceIte, q107_0, n153_2 hR hA hl Z hn hm hx, bd_s, kI_r, kV_r, kL_r, rZ_1, rZ_0, rZ_b, rI_ite, bI_ite, ite_tf, ite_ft, bI0, bI1, bf_ite, nAdd, nMul, nLt, nEq, nEqM, nMEq, nMLt, nLtM, nMLt0, if_true, if_false, Nat.reduceAdd, Nat.reduceMul, Nat.zero_add, Nat.add_zero, decide_eq_true_eq, decide_true, decide_false, Nat.reduceEqDiff, Nat.reduceLT, Nat.reduceLeDiff, eq_self, Bool.false_eq_true, Bool.true_eq_false, Bool.not_eq_false', Bool.not_eq_true', ite_not, hR_c0 hR, hR_r0_0 hR, hR_r0_1 hR, hR_r0_2 hR, hR_r0_3 hR, hR_r0_4 hR, hR_r0_5 hR, hR_g0_6 hR, hA_c0 hA, hA_r0_0 hA, hA_r0_1 hA, hA_r0_2 hA, hA_r0_3 hA, hA_r0_4 hA, hA_r0_5 hA, hA_r0_6 hA, hA_r0_7 hA, hA_r0_8 hA, hA_r0_9 hA, hA_r0_10 hA, hA_r0_11 hA, hA_g0_12 hA, hA_g0_13 hA, hA_g0_14 hA, hA_g0_15 hA, hA_g0_16 hA, hA_c1 hA, hA_r1_0 hA, hA_r1_1 hA, hA_r1_2 hA, hA_r1_3 hA, hA_g1_4 hA, hA_a2 hA, hA_n2 hA, hA_a3 hA, hA_n3 hA, hA_a4 hA, hA_n4 hA, hA_a5 hA, hA_n5 hA, hA_c6 hA, hA_r6_0 hA, hA_r6_1 hA, hA_g6_2 hA, hA_a7 hA, hA_n7 hA, hA_a8 hA, hA_n8 hA, hA_a9 hA, hA_n9 hA, hA_a10 hA, hA_n10 hA, hA_a11 hA, hA_n11 hA, hA_a12 hA, hA_n12 hA, hA_a13 hA, hA_n13 hA, hA_a14 hA, hA_n14 hA, hA_a15 hA, hA_n15 hA, hA_a16 hA, hA_n16 hA, hA_a17 hA, hA_n17 hA, hA_a18 hA, hA_n18 hA, kV_th, kI_th, Nat.not_lt_zero]
theorem a107_0 (hR : hB TR 1 x R m) (hA : hB TA 19 (x + 26) A m) (hl : R.1 0 6 = Int32.ofNat 1) (Z : OKA Y A h s) {k n : Nat} (hn : h 2 = Int32.ofNat n) (hm : n ≤ 24) (hk : k < n) : dN e (d + 5) 107 [.ref x, .int (Int32.ofNat k)] m = rI (h (102 + k)) m := by
  have hc2 : k < nN (h 2) := by rw [hn, nN_o (by omega)]; exact hk
  obtain ⟨f1, f2, f3, f4⟩ := Z.1.2.2.2.1.2.2.2.2.1 k hc2
  have hk8 : k < 8 := by have := Z.2.2.2.2.1.2.2; omega
  refine en107 (hR_c0 hR) fun t ht => ?_
  obtain ⟨u, rfl⟩ := fu 9 ht rfl
  simp -implicitDefEqProofs (disch := omega) only [↓reduceIte, q107_0, n153_0 hR hA hl Z hn hm hk, f2, bd_s, kI_r, kV_r, kL_r, rZ_1, rZ_0, rZ_b, rI_ite, bI_ite, ite_tf, ite_ft, bI0, bI1, bf_ite, nAdd, nMul, nLt, nEq, nEqM, nMEq, nMLt, nLtM, nMLt0, if_true, if_false, Nat.reduceAdd, Nat.reduceMul, Nat.zero_add, Nat.add_zero, decide_eq_true_eq, decide_true, decide_false, Nat.reduceEqDiff, Nat.reduceLT, Nat.reduceLeDiff, eq_self, Bool.false_eq_true, Bool.true_eq_false, Bool.not_eq_false', Bool.not_eq_true', ite_not, hR_c0 hR, hR_r0_0 hR, hR_r0_1 hR, hR_r0_2 hR, hR_r0_3 hR, hR_r0_4 hR, hR_r0_5 hR, hR_g0_6 hR, hA_c0 hA, hA_r0_0 hA, hA_r0_1 hA, hA_r0_2 hA, hA_r0_3 hA, hA_r0_4 hA, hA_r0_5 hA, hA_r0_6 hA, hA_r0_7 hA, hA_r0_8 hA, hA_r0_9 hA, hA_r0_10 hA, hA_r0_11 hA, hA_g0_12 hA, hA_g0_13 hA, hA_g0_14 hA, hA_g0_15 hA, hA_g0_16 hA, hA_c1 hA, hA_r1_0 hA, hA_r1_1 hA, hA_r1_2 hA, hA_r1_3 hA, hA_g1_4 hA, hA_a2 hA, hA_n2 hA, hA_a3 hA, hA_n3 hA, hA_a4 hA, hA_n4 hA, hA_a5 hA, hA_n5 hA, hA_c6 hA, hA_r6_0 hA, hA_r6_1 hA, hA_g6_2 hA, hA_a7 hA, hA_n7 hA, hA_a8 hA, hA_n8 hA, hA_a9 hA, hA_n9 hA, hA_a10 hA, hA_n10 hA, hA_a11 hA, hA_n11 hA, hA_a12 hA, hA_n12 hA, hA_a13 hA, hA_n13 hA, hA_a14 hA, hA_n14 hA, hA_a15 hA, hA_n15 hA, hA_a16 hA, hA_n16 hA, hA_a17 hA, hA_n17 hA, hA_a18 hA, hA_n18 hA, kV_th, kI_th, Nat.not_lt_zero]
theorem a124_1 (hR : hB TR 1 x R m) (hA : hB TA 19 (x + 26) A m) (hl : R.1 0 6 = Int32.ofNat 0) {y : Int32} : dN e (d + 5) 124 [.ref x, .int y] m = dTh 1 m := by
  refine en124 (hR_c0 hR) fun t ht => ?_
  obtain ⟨u, rfl⟩ := fu 19 ht rfl
  simp -implicitDefEqProofs (disch := omega) only [↓reduceIte, q124_0, n155_1 hR hA hl, bd_s, kI_r, kV_r, kL_r, rZ_1, rZ_0, rZ_b, rI_ite, bI_ite, ite_tf, ite_ft, bI0, bI1, bf_ite, nAdd, nMul, nLt, nEq, nEqM, nMEq, nMLt, nLtM, nMLt0, if_true, if_false, Nat.reduceAdd, Nat.reduceMul, Nat.zero_add, Nat.add_zero, decide_eq_true_eq, decide_true, decide_false, Nat.reduceEqDiff, Nat.reduceLT, Nat.reduceLeDiff, eq_self, Bool.false_eq_true, Bool.true_eq_false, Bool.not_eq_false', Bool.not_eq_true', ite_not, hR_c0 hR, hR_r0_0 hR, hR_r0_1 hR, hR_r0_2 hR, hR_r0_3 hR, hR_r0_4 hR, hR_r0_5 hR, hR_g0_6 hR, hA_c0 hA, hA_r0_0 hA, hA_r0_1 hA, hA_r0_2 hA, hA_r0_3 hA, hA_r0_4 hA, hA_r0_5 hA, hA_r0_6 hA, hA_r0_7 hA, hA_r0_8 hA, hA_r0_9 hA, hA_r0_10 hA, hA_r0_11 hA, hA_g0_12 hA, hA_g0_13 hA, hA_g0_14 hA, hA_g0_15 hA, hA_g0_16 hA, hA_c1 hA, hA_r1_0 hA, hA_r1_1 hA, hA_r1_2 hA, hA_r1_3 hA, hA_g1_4 hA, hA_a2 hA, hA_n2 hA, hA_a3 hA, hA_n3 hA, hA_a4 hA, hA_n4 hA, hA_a5 hA, hA_n5 hA, hA_c6 hA, hA_r6_0 hA, hA_r6_1 hA, hA_g6_2 hA, hA_a7 hA, hA_n7 hA, hA_a8 hA, hA_n8 hA, hA_a9 hA, hA_n9 hA, hA_a10 hA, hA_n10 hA, hA_a11 hA, hA_n11 hA, hA_a12 hA, hA_n12 hA, hA_a13 hA, hA_n13 hA, hA_a14 hA, hA_n14 hA, hA_a15 hA, hA_n15 hA, hA_a16 hA, hA_n16 hA, hA_a17 hA, hA_n17 hA, hA_a18 hA, hA_n18 hA, kV_th, kI_th, Nat.not_lt_zero]
theorem a124_2 (hR : hB TR 1 x R m) (hA : hB TA 19 (x + 26) A m) (hl : R.1 0 6 = Int32.ofNat 1) (Z : OKA Y A h s) {y : Int32} {n : Nat} (hn : h 3 = Int32.ofNat n) (hm : n ≤ 24) (hx : rngB 0 ((n : Int) - 1) y = false) : dN e (d + 5) 124 [.ref x, .int y] m = dTh 2 m := by
  refine en124 (hR_c0 hR) fun t ht => ?_
  obtain ⟨u, rfl⟩ := fu 9 ht rfl
  simp -implicitDefEqProofs (disch := omega) only [↓reduceIte, q124_0, n155_2 hR hA hl Z hn hm hx, bd_s, kI_r, kV_r, kL_r, rZ_1, rZ_0, rZ_b, rI_ite, bI_ite, ite_tf, ite_ft, bI0, bI1, bf_ite, nAdd, nMul, nLt, nEq, nEqM, nMEq, nMLt, nLtM, nMLt0, if_true, if_false, Nat.reduceAdd, Nat.reduceMul, Nat.zero_add, Nat.add_zero, decide_eq_true_eq, decide_true, decide_false, Nat.reduceEqDiff, Nat.reduceLT, Nat.reduceLeDiff, eq_self, Bool.false_eq_true, Bool.true_eq_false, Bool.not_eq_false', Bool.not_eq_true', ite_not, hR_c0 hR, hR_r0_0 hR, hR_r0_1 hR, hR_r0_2 hR, hR_r0_3 hR, hR_r0_4 hR, hR_r0_5 hR, hR_g0_6 hR, hA_c0 hA, hA_r0_0 hA, hA_r0_1 hA, hA_r0_2 hA, hA_r0_3 hA, hA_r0_4 hA, hA_r0_5 hA, hA_r0_6 hA, hA_r0_7 hA, hA_r0_8 hA, hA_r0_9 hA, hA_r0_10 hA, hA_r0_11 hA, hA_g0_12 hA, hA_g0_13 hA, hA_g0_14 hA, hA_g0_15 hA, hA_g0_16 hA, hA_c1 hA, hA_r1_0 hA, hA_r1_1 hA, hA_r1_2 hA, hA_r1_3 hA, hA_g1_4 hA, hA_a2 hA, hA_n2 hA, hA_a3 hA, hA_n3 hA, hA_a4 hA, hA_n4 hA, hA_a5 hA, hA_n5 hA, hA_c6 hA, hA_r6_0 hA, hA_r6_1 hA, hA_g6_2 hA, hA_a7 hA, hA_n7 hA, hA_a8 hA, hA_n8 hA, hA_a9 hA, hA_n9 hA, hA_a10 hA, hA_n10 hA, hA_a11 hA, hA_n11 hA, hA_a12 hA, hA_n12 hA, hA_a13 hA, hA_n13 hA, hA_a14 hA, hA_n14 hA, hA_a15 hA, hA_n15 hA, hA_a16 hA, hA_n16 hA, hA_a17 hA, hA_n17 hA, hA_a18 hA, hA_n18 hA, kV_th, kI_th, Nat.not_lt_zero]
theorem a124_0 (hR : hB TR 1 x R m) (hA : hB TA 19 (x + 26) A m) (hl : R.1 0 6 = Int32.ofNat 1) (Z : OKA Y A h s) {k n : Nat} (hn : h 3 = Int32.ofNat n) (hm : n ≤ 24) (hk : k < n) : dN e (d + 5) 124 [.ref x, .int (Int32.ofNat k)] m = rI (h (40 + k)) m := by
  have hr2 : k < nN (h 3) := by rw [hn, nN_o (by omega)]; exact hk
  obtain ⟨f1, f2⟩ := Z.1.2.2.2.1.2.2.2.2.2 k hr2
  have hk6 : k < 6 := by have := Z.2.2.2.2.2.1.2.2; omega
  refine en124 (hR_c0 hR) fun t ht => ?_
  obtain ⟨u, rfl⟩ := fu 9 ht rfl
  simp -implicitDefEqProofs (disch := omega) only [↓reduceIte, q124_0, n155_0 hR hA hl Z hn hm hk, f1, bd_s, kI_r, kV_r, kL_r, rZ_1, rZ_0, rZ_b, rI_ite, bI_ite, ite_tf, ite_ft, bI0, bI1, bf_ite, nAdd, nMul, nLt, nEq, nEqM, nMEq, nMLt, nLtM, nMLt0, if_true, if_false, Nat.reduceAdd, Nat.reduceMul, Nat.zero_add, Nat.add_zero, decide_eq_true_eq, decide_true, decide_false, Nat.reduceEqDiff, Nat.reduceLT, Nat.reduceLeDiff, eq_self, Bool.false_eq_true, Bool.true_eq_false, Bool.not_eq_false', Bool.not_eq_true', ite_not, hR_c0 hR, hR_r0_0 hR, hR_r0_1 hR, hR_r0_2 hR, hR_r0_3 hR, hR_r0_4 hR, hR_r0_5 hR, hR_g0_6 hR, hA_c0 hA, hA_r0_0 hA, hA_r0_1 hA, hA_r0_2 hA, hA_r0_3 hA, hA_r0_4 hA, hA_r0_5 hA, hA_r0_6 hA, hA_r0_7 hA, hA_r0_8 hA, hA_r0_9 hA, hA_r0_10 hA, hA_r0_11 hA, hA_g0_12 hA, hA_g0_13 hA, hA_g0_14 hA, hA_g0_15 hA, hA_g0_16 hA, hA_c1 hA, hA_r1_0 hA, hA_r1_1 hA, hA_r1_2 hA, hA_r1_3 hA, hA_g1_4 hA, hA_a2 hA, hA_n2 hA, hA_a3 hA, hA_n3 hA, hA_a4 hA, hA_n4 hA, hA_a5 hA, hA_n5 hA, hA_c6 hA, hA_r6_0 hA, hA_r6_1 hA, hA_g6_2 hA, hA_a7 hA, hA_n7 hA, hA_a8 hA, hA_n8 hA, hA_a9 hA, hA_n9 hA, hA_a10 hA, hA_n10 hA, hA_a11 hA, hA_n11 hA, hA_a12 hA, hA_n12 hA, hA_a13 hA, hA_n13 hA, hA_a14 hA, hA_n14 hA, hA_a15 hA, hA_n15 hA, hA_a16 hA, hA_n16 hA, hA_a17 hA, hA_n17 hA, hA_a18 hA, hA_n18 hA, kV_th, kI_th, Nat.not_lt_zero]
theorem a125_1 (hR : hB TR 1 x R m) (hA : hB TA 19 (x + 26) A m) (hl : R.1 0 6 = Int32.ofNat 0) {y : Int32} : dN e (d + 5) 125 [.ref x, .int y] m = dTh 1 m := by
  refine en125 (hR_c0 hR) fun t ht => ?_
  obtain ⟨u, rfl⟩ := fu 19 ht rfl
  simp -implicitDefEqProofs (disch := omega) only [↓reduceIte, q125_0, n155_1 hR hA hl, bd_s, kI_r, kV_r, kL_r, rZ_1, rZ_0, rZ_b, rI_ite, bI_ite, ite_tf, ite_ft, bI0, bI1, bf_ite, nAdd, nMul, nLt, nEq, nEqM, nMEq, nMLt, nLtM, nMLt0, if_true, if_false, Nat.reduceAdd, Nat.reduceMul, Nat.zero_add, Nat.add_zero, decide_eq_true_eq, decide_true, decide_false, Nat.reduceEqDiff, Nat.reduceLT, Nat.reduceLeDiff, eq_self, Bool.false_eq_true, Bool.true_eq_false, Bool.not_eq_false', Bool.not_eq_true', ite_not, hR_c0 hR, hR_r0_0 hR, hR_r0_1 hR, hR_r0_2 hR, hR_r0_3 hR, hR_r0_4 hR, hR_r0_5 hR, hR_g0_6 hR, hA_c0 hA, hA_r0_0 hA, hA_r0_1 hA, hA_r0_2 hA, hA_r0_3 hA, hA_r0_4 hA, hA_r0_5 hA, hA_r0_6 hA, hA_r0_7 hA, hA_r0_8 hA, hA_r0_9 hA, hA_r0_10 hA, hA_r0_11 hA, hA_g0_12 hA, hA_g0_13 hA, hA_g0_14 hA, hA_g0_15 hA, hA_g0_16 hA, hA_c1 hA, hA_r1_0 hA, hA_r1_1 hA, hA_r1_2 hA, hA_r1_3 hA, hA_g1_4 hA, hA_a2 hA, hA_n2 hA, hA_a3 hA, hA_n3 hA, hA_a4 hA, hA_n4 hA, hA_a5 hA, hA_n5 hA, hA_c6 hA, hA_r6_0 hA, hA_r6_1 hA, hA_g6_2 hA, hA_a7 hA, hA_n7 hA, hA_a8 hA, hA_n8 hA, hA_a9 hA, hA_n9 hA, hA_a10 hA, hA_n10 hA, hA_a11 hA, hA_n11 hA, hA_a12 hA, hA_n12 hA, hA_a13 hA, hA_n13 hA, hA_a14 hA, hA_n14 hA, hA_a15 hA, hA_n15 hA, hA_a16 hA, hA_n16 hA, hA_a17 hA, hA_n17 hA, hA_a18 hA, hA_n18 hA, kV_th, kI_th, Nat.not_lt_zero]
theorem a125_2 (hR : hB TR 1 x R m) (hA : hB TA 19 (x + 26) A m) (hl : R.1 0 6 = Int32.ofNat 1) (Z : OKA Y A h s) {y : Int32} {n : Nat} (hn : h 3 = Int32.ofNat n) (hm : n ≤ 24) (hx : rngB 0 ((n : Int) - 1) y = false) : dN e (d + 5) 125 [.ref x, .int y] m = dTh 2 m := by
  refine en125 (hR_c0 hR) fun t ht => ?_
  obtain ⟨u, rfl⟩ := fu 9 ht rfl
  simp -implicitDefEqProofs (disch := omega) only [↓reduceIte, q125_0, n155_2 hR hA hl Z hn hm hx, bd_s, kI_r, kV_r, kL_r, rZ_1, rZ_0, rZ_b, rI_ite, bI_ite, ite_tf, ite_ft, bI0, bI1, bf_ite, nAdd, nMul, nLt, nEq, nEqM, nMEq, nMLt, nLtM, nMLt0, if_true, if_false, Nat.reduceAdd, Nat.reduceMul, Nat.zero_add, Nat.add_zero, decide_eq_true_eq, decide_true, decide_false, Nat.reduceEqDiff, Nat.reduceLT, Nat.reduceLeDiff, eq_self, Bool.false_eq_true, Bool.true_eq_false, Bool.not_eq_false', Bool.not_eq_true', ite_not, hR_c0 hR, hR_r0_0 hR, hR_r0_1 hR, hR_r0_2 hR, hR_r0_3 hR, hR_r0_4 hR, hR_r0_5 hR, hR_g0_6 hR, hA_c0 hA, hA_r0_0 hA, hA_r0_1 hA, hA_r0_2 hA, hA_r0_3 hA, hA_r0_4 hA, hA_r0_5 hA, hA_r0_6 hA, hA_r0_7 hA, hA_r0_8 hA, hA_r0_9 hA, hA_r0_10 hA, hA_r0_11 hA, hA_g0_12 hA, hA_g0_13 hA, hA_g0_14 hA, hA_g0_15 hA, hA_g0_16 hA, hA_c1 hA, hA_r1_0 hA, hA_r1_1 hA, hA_r1_2 hA, hA_r1_3 hA, hA_g1_4 hA, hA_a2 hA, hA_n2 hA, hA_a3 hA, hA_n3 hA, hA_a4 hA, hA_n4 hA, hA_a5 hA, hA_n5 hA, hA_c6 hA, hA_r6_0 hA, hA_r6_1 hA, hA_g6_2 hA, hA_a7 hA, hA_n7 hA, hA_a8 hA, hA_n8 hA, hA_a9 hA, hA_n9 hA, hA_a10 hA, hA_n10 hA, hA_a11 hA, hA_n11 hA, hA_a12 hA, hA_n12 hA, hA_a13 hA, hA_n13 hA, hA_a14 hA, hA_n14 hA, hA_a15 hA, hA_n15 hA, hA_a16 hA, hA_n16 hA, hA_a17 hA, hA_n17 hA, hA_a18 hA, hA_n18 hA, kV_th, kI_th, Nat.not_lt_zero]
theorem a125_0 (hR : hB TR 1 x R m) (hA : hB TA 19 (x + 26) A m) (hl : R.1 0 6 = Int32.ofNat 1) (Z : OKA Y A h s) {k n : Nat} (hn : h 3 = Int32.ofNat n) (hm : n ≤ 24) (hk : k < n) : dN e (d + 5) 125 [.ref x, .int (Int32.ofNat k)] m = rI (Int32.ofNat (lonN s (Int32.ofNat k))) m := by
  have hr2 : k < nN (h 3) := by rw [hn, nN_o (by omega)]; exact hk
  obtain ⟨f1, f2⟩ := Z.1.2.2.2.1.2.2.2.2.2 k hr2
  have hk6 : k < 6 := by have := Z.2.2.2.2.2.1.2.2; omega
  have g := k_held (e := e) (a := x + 26) (d := d + 3) (m := m) Z.z (x := Int32.ofNat k)
  rw [ov_self hA] at g
  refine en125 (hR_c0 hR) fun t ht => ?_
  obtain ⟨u, rfl⟩ := fu 9 ht rfl
  simp -implicitDefEqProofs (disch := omega) only [↓reduceIte, q125_0, n155_0 hR hA hl Z hn hm hk, g, bd_s, kI_r, kV_r, kL_r, rZ_1, rZ_0, rZ_b, rI_ite, bI_ite, ite_tf, ite_ft, bI0, bI1, bf_ite, nAdd, nMul, nLt, nEq, nEqM, nMEq, nMLt, nLtM, nMLt0, if_true, if_false, Nat.reduceAdd, Nat.reduceMul, Nat.zero_add, Nat.add_zero, decide_eq_true_eq, decide_true, decide_false, Nat.reduceEqDiff, Nat.reduceLT, Nat.reduceLeDiff, eq_self, Bool.false_eq_true, Bool.true_eq_false, Bool.not_eq_false', Bool.not_eq_true', ite_not, hR_c0 hR, hR_r0_0 hR, hR_r0_1 hR, hR_r0_2 hR, hR_r0_3 hR, hR_r0_4 hR, hR_r0_5 hR, hR_g0_6 hR, hA_c0 hA, hA_r0_0 hA, hA_r0_1 hA, hA_r0_2 hA, hA_r0_3 hA, hA_r0_4 hA, hA_r0_5 hA, hA_r0_6 hA, hA_r0_7 hA, hA_r0_8 hA, hA_r0_9 hA, hA_r0_10 hA, hA_r0_11 hA, hA_g0_12 hA, hA_g0_13 hA, hA_g0_14 hA, hA_g0_15 hA, hA_g0_16 hA, hA_c1 hA, hA_r1_0 hA, hA_r1_1 hA, hA_r1_2 hA, hA_r1_3 hA, hA_g1_4 hA, hA_a2 hA, hA_n2 hA, hA_a3 hA, hA_n3 hA, hA_a4 hA, hA_n4 hA, hA_a5 hA, hA_n5 hA, hA_c6 hA, hA_r6_0 hA, hA_r6_1 hA, hA_g6_2 hA, hA_a7 hA, hA_n7 hA, hA_a8 hA, hA_n8 hA, hA_a9 hA, hA_n9 hA, hA_a10 hA, hA_n10 hA, hA_a11 hA, hA_n11 hA, hA_a12 hA, hA_n12 hA, hA_a13 hA, hA_n13 hA, hA_a14 hA, hA_n14 hA, hA_a15 hA, hA_n15 hA, hA_a16 hA, hA_n16 hA, hA_a17 hA, hA_n17 hA, hA_a18 hA, hA_n18 hA, kV_th, kI_th, Nat.not_lt_zero]
theorem a93_1 (hR : hB TR 1 x R m) (hA : hB TA 19 (x + 26) A m) (hl : R.1 0 6 = Int32.ofNat 0) : dN e (d + 5) 93 [.ref x] m = dTh 1 m := by
  refine en93 (hR_c0 hR) fun t ht => ?_
  obtain ⟨u, rfl⟩ := fu 19 ht rfl
  simp -implicitDefEqProofs (disch := omega) only [↓reduceIte, q93_0, n152_1 hR hA hl, bd_s, kI_r, kV_r, kL_r, rZ_1, rZ_0, rZ_b, rI_ite, bI_ite, ite_tf, ite_ft, bI0, bI1, bf_ite, nAdd, nMul, nLt, nEq, nEqM, nMEq, nMLt, nLtM, nMLt0, if_true, if_false, Nat.reduceAdd, Nat.reduceMul, Nat.zero_add, Nat.add_zero, decide_eq_true_eq, decide_true, decide_false, Nat.reduceEqDiff, Nat.reduceLT, Nat.reduceLeDiff, eq_self, Bool.false_eq_true, Bool.true_eq_false, Bool.not_eq_false', Bool.not_eq_true', ite_not, hR_c0 hR, hR_r0_0 hR, hR_r0_1 hR, hR_r0_2 hR, hR_r0_3 hR, hR_r0_4 hR, hR_r0_5 hR, hR_g0_6 hR, hA_c0 hA, hA_r0_0 hA, hA_r0_1 hA, hA_r0_2 hA, hA_r0_3 hA, hA_r0_4 hA, hA_r0_5 hA, hA_r0_6 hA, hA_r0_7 hA, hA_r0_8 hA, hA_r0_9 hA, hA_r0_10 hA, hA_r0_11 hA, hA_g0_12 hA, hA_g0_13 hA, hA_g0_14 hA, hA_g0_15 hA, hA_g0_16 hA, hA_c1 hA, hA_r1_0 hA, hA_r1_1 hA, hA_r1_2 hA, hA_r1_3 hA, hA_g1_4 hA, hA_a2 hA, hA_n2 hA, hA_a3 hA, hA_n3 hA, hA_a4 hA, hA_n4 hA, hA_a5 hA, hA_n5 hA, hA_c6 hA, hA_r6_0 hA, hA_r6_1 hA, hA_g6_2 hA, hA_a7 hA, hA_n7 hA, hA_a8 hA, hA_n8 hA, hA_a9 hA, hA_n9 hA, hA_a10 hA, hA_n10 hA, hA_a11 hA, hA_n11 hA, hA_a12 hA, hA_n12 hA, hA_a13 hA, hA_n13 hA, hA_a14 hA, hA_n14 hA, hA_a15 hA, hA_n15 hA, hA_a16 hA, hA_n16 hA, hA_a17 hA, hA_n17 hA, hA_a18 hA, hA_n18 hA, kV_th, kI_th, Nat.not_lt_zero]
theorem a93_0 (hR : hB TR 1 x R m) (hA : hB TA 19 (x + 26) A m) (hl : R.1 0 6 = Int32.ofNat 1) (Z : OKA Y A h s) : dN e (d + 5) 93 [.ref x] m = rI (s 0) m := by
  have f12 := Z.1.1
  have f13 := Z.1.2.1
  have f14 := Z.1.2.2.1
  have f15 := Z.1.2.2.2.1.1
  have f16 := Z.1.2.2.2.1.2.1
  have fc := Z.1.2.2.2.1.2.2.1
  have fr := Z.1.2.2.2.1.2.2.2.1
  refine en93 (hR_c0 hR) fun t ht => ?_
  obtain ⟨u, rfl⟩ := fu 19 ht rfl
  simp -implicitDefEqProofs (disch := omega) only [↓reduceIte, q93_0, n152_0 hR hA hl, f14, bd_s, kI_r, kV_r, kL_r, rZ_1, rZ_0, rZ_b, rI_ite, bI_ite, ite_tf, ite_ft, bI0, bI1, bf_ite, nAdd, nMul, nLt, nEq, nEqM, nMEq, nMLt, nLtM, nMLt0, if_true, if_false, Nat.reduceAdd, Nat.reduceMul, Nat.zero_add, Nat.add_zero, decide_eq_true_eq, decide_true, decide_false, Nat.reduceEqDiff, Nat.reduceLT, Nat.reduceLeDiff, eq_self, Bool.false_eq_true, Bool.true_eq_false, Bool.not_eq_false', Bool.not_eq_true', ite_not, hR_c0 hR, hR_r0_0 hR, hR_r0_1 hR, hR_r0_2 hR, hR_r0_3 hR, hR_r0_4 hR, hR_r0_5 hR, hR_g0_6 hR, hA_c0 hA, hA_r0_0 hA, hA_r0_1 hA, hA_r0_2 hA, hA_r0_3 hA, hA_r0_4 hA, hA_r0_5 hA, hA_r0_6 hA, hA_r0_7 hA, hA_r0_8 hA, hA_r0_9 hA, hA_r0_10 hA, hA_r0_11 hA, hA_g0_12 hA, hA_g0_13 hA, hA_g0_14 hA, hA_g0_15 hA, hA_g0_16 hA, hA_c1 hA, hA_r1_0 hA, hA_r1_1 hA, hA_r1_2 hA, hA_r1_3 hA, hA_g1_4 hA, hA_a2 hA, hA_n2 hA, hA_a3 hA, hA_n3 hA, hA_a4 hA, hA_n4 hA, hA_a5 hA, hA_n5 hA, hA_c6 hA, hA_r6_0 hA, hA_r6_1 hA, hA_g6_2 hA, hA_a7 hA, hA_n7 hA, hA_a8 hA, hA_n8 hA, hA_a9 hA, hA_n9 hA, hA_a10 hA, hA_n10 hA, hA_a11 hA, hA_n11 hA, hA_a12 hA, hA_n12 hA, hA_a13 hA, hA_n13 hA, hA_a14 hA, hA_n14 hA, hA_a15 hA, hA_n15 hA, hA_a16 hA, hA_n16 hA, hA_a17 hA, hA_n17 hA, hA_a18 hA, hA_n18 hA, kV_th, kI_th, Nat.not_lt_zero]
theorem a94_1 (hR : hB TR 1 x R m) (hA : hB TA 19 (x + 26) A m) (hl : R.1 0 6 = Int32.ofNat 0) : dN e (d + 5) 94 [.ref x] m = dTh 1 m := by
  refine en94 (hR_c0 hR) fun t ht => ?_
  obtain ⟨u, rfl⟩ := fu 19 ht rfl
  simp -implicitDefEqProofs (disch := omega) only [↓reduceIte, q94_0, n152_1 hR hA hl, bd_s, kI_r, kV_r, kL_r, rZ_1, rZ_0, rZ_b, rI_ite, bI_ite, ite_tf, ite_ft, bI0, bI1, bf_ite, nAdd, nMul, nLt, nEq, nEqM, nMEq, nMLt, nLtM, nMLt0, if_true, if_false, Nat.reduceAdd, Nat.reduceMul, Nat.zero_add, Nat.add_zero, decide_eq_true_eq, decide_true, decide_false, Nat.reduceEqDiff, Nat.reduceLT, Nat.reduceLeDiff, eq_self, Bool.false_eq_true, Bool.true_eq_false, Bool.not_eq_false', Bool.not_eq_true', ite_not, hR_c0 hR, hR_r0_0 hR, hR_r0_1 hR, hR_r0_2 hR, hR_r0_3 hR, hR_r0_4 hR, hR_r0_5 hR, hR_g0_6 hR, hA_c0 hA, hA_r0_0 hA, hA_r0_1 hA, hA_r0_2 hA, hA_r0_3 hA, hA_r0_4 hA, hA_r0_5 hA, hA_r0_6 hA, hA_r0_7 hA, hA_r0_8 hA, hA_r0_9 hA, hA_r0_10 hA, hA_r0_11 hA, hA_g0_12 hA, hA_g0_13 hA, hA_g0_14 hA, hA_g0_15 hA, hA_g0_16 hA, hA_c1 hA, hA_r1_0 hA, hA_r1_1 hA, hA_r1_2 hA, hA_r1_3 hA, hA_g1_4 hA, hA_a2 hA, hA_n2 hA, hA_a3 hA, hA_n3 hA, hA_a4 hA, hA_n4 hA, hA_a5 hA, hA_n5 hA, hA_c6 hA, hA_r6_0 hA, hA_r6_1 hA, hA_g6_2 hA, hA_a7 hA, hA_n7 hA, hA_a8 hA, hA_n8 hA, hA_a9 hA, hA_n9 hA, hA_a10 hA, hA_n10 hA, hA_a11 hA, hA_n11 hA, hA_a12 hA, hA_n12 hA, hA_a13 hA, hA_n13 hA, hA_a14 hA, hA_n14 hA, hA_a15 hA, hA_n15 hA, hA_a16 hA, hA_n16 hA, hA_a17 hA, hA_n17 hA, hA_a18 hA, hA_n18 hA, kV_th, kI_th, Nat.not_lt_zero]
theorem a94_0 (hR : hB TR 1 x R m) (hA : hB TA 19 (x + 26) A m) (hl : R.1 0 6 = Int32.ofNat 1) (Z : OKA Y A h s) : dN e (d + 5) 94 [.ref x] m = rI (h 2) m := by
  have f12 := Z.1.1
  have f13 := Z.1.2.1
  have f14 := Z.1.2.2.1
  have f15 := Z.1.2.2.2.1.1
  have f16 := Z.1.2.2.2.1.2.1
  have fc := Z.1.2.2.2.1.2.2.1
  have fr := Z.1.2.2.2.1.2.2.2.1
  refine en94 (hR_c0 hR) fun t ht => ?_
  obtain ⟨u, rfl⟩ := fu 19 ht rfl
  simp -implicitDefEqProofs (disch := omega) only [↓reduceIte, q94_0, n152_0 hR hA hl, fc, bd_s, kI_r, kV_r, kL_r, rZ_1, rZ_0, rZ_b, rI_ite, bI_ite, ite_tf, ite_ft, bI0, bI1, bf_ite, nAdd, nMul, nLt, nEq, nEqM, nMEq, nMLt, nLtM, nMLt0, if_true, if_false, Nat.reduceAdd, Nat.reduceMul, Nat.zero_add, Nat.add_zero, decide_eq_true_eq, decide_true, decide_false, Nat.reduceEqDiff, Nat.reduceLT, Nat.reduceLeDiff, eq_self, Bool.false_eq_true, Bool.true_eq_false, Bool.not_eq_false', Bool.not_eq_true', ite_not, hR_c0 hR, hR_r0_0 hR, hR_r0_1 hR, hR_r0_2 hR, hR_r0_3 hR, hR_r0_4 hR, hR_r0_5 hR, hR_g0_6 hR, hA_c0 hA, hA_r0_0 hA, hA_r0_1 hA, hA_r0_2 hA, hA_r0_3 hA, hA_r0_4 hA, hA_r0_5 hA, hA_r0_6 hA, hA_r0_7 hA, hA_r0_8 hA, hA_r0_9 hA, hA_r0_10 hA, hA_r0_11 hA, hA_g0_12 hA, hA_g0_13 hA, hA_g0_14 hA, hA_g0_15 hA, hA_g0_16 hA, hA_c1 hA, hA_r1_0 hA, hA_r1_1 hA, hA_r1_2 hA, hA_r1_3 hA, hA_g1_4 hA, hA_a2 hA, hA_n2 hA, hA_a3 hA, hA_n3 hA, hA_a4 hA, hA_n4 hA, hA_a5 hA, hA_n5 hA, hA_c6 hA, hA_r6_0 hA, hA_r6_1 hA, hA_g6_2 hA, hA_a7 hA, hA_n7 hA, hA_a8 hA, hA_n8 hA, hA_a9 hA, hA_n9 hA, hA_a10 hA, hA_n10 hA, hA_a11 hA, hA_n11 hA, hA_a12 hA, hA_n12 hA, hA_a13 hA, hA_n13 hA, hA_a14 hA, hA_n14 hA, hA_a15 hA, hA_n15 hA, hA_a16 hA, hA_n16 hA, hA_a17 hA, hA_n17 hA, hA_a18 hA, hA_n18 hA, kV_th, kI_th, Nat.not_lt_zero]
theorem a95_1 (hR : hB TR 1 x R m) (hA : hB TA 19 (x + 26) A m) (hl : R.1 0 6 = Int32.ofNat 0) : dN e (d + 5) 95 [.ref x] m = dTh 1 m := by
  refine en95 (hR_c0 hR) fun t ht => ?_
  obtain ⟨u, rfl⟩ := fu 19 ht rfl
  simp -implicitDefEqProofs (disch := omega) only [↓reduceIte, q95_0, n152_1 hR hA hl, bd_s, kI_r, kV_r, kL_r, rZ_1, rZ_0, rZ_b, rI_ite, bI_ite, ite_tf, ite_ft, bI0, bI1, bf_ite, nAdd, nMul, nLt, nEq, nEqM, nMEq, nMLt, nLtM, nMLt0, if_true, if_false, Nat.reduceAdd, Nat.reduceMul, Nat.zero_add, Nat.add_zero, decide_eq_true_eq, decide_true, decide_false, Nat.reduceEqDiff, Nat.reduceLT, Nat.reduceLeDiff, eq_self, Bool.false_eq_true, Bool.true_eq_false, Bool.not_eq_false', Bool.not_eq_true', ite_not, hR_c0 hR, hR_r0_0 hR, hR_r0_1 hR, hR_r0_2 hR, hR_r0_3 hR, hR_r0_4 hR, hR_r0_5 hR, hR_g0_6 hR, hA_c0 hA, hA_r0_0 hA, hA_r0_1 hA, hA_r0_2 hA, hA_r0_3 hA, hA_r0_4 hA, hA_r0_5 hA, hA_r0_6 hA, hA_r0_7 hA, hA_r0_8 hA, hA_r0_9 hA, hA_r0_10 hA, hA_r0_11 hA, hA_g0_12 hA, hA_g0_13 hA, hA_g0_14 hA, hA_g0_15 hA, hA_g0_16 hA, hA_c1 hA, hA_r1_0 hA, hA_r1_1 hA, hA_r1_2 hA, hA_r1_3 hA, hA_g1_4 hA, hA_a2 hA, hA_n2 hA, hA_a3 hA, hA_n3 hA, hA_a4 hA, hA_n4 hA, hA_a5 hA, hA_n5 hA, hA_c6 hA, hA_r6_0 hA, hA_r6_1 hA, hA_g6_2 hA, hA_a7 hA, hA_n7 hA, hA_a8 hA, hA_n8 hA, hA_a9 hA, hA_n9 hA, hA_a10 hA, hA_n10 hA, hA_a11 hA, hA_n11 hA, hA_a12 hA, hA_n12 hA, hA_a13 hA, hA_n13 hA, hA_a14 hA, hA_n14 hA, hA_a15 hA, hA_n15 hA, hA_a16 hA, hA_n16 hA, hA_a17 hA, hA_n17 hA, hA_a18 hA, hA_n18 hA, kV_th, kI_th, Nat.not_lt_zero]
theorem a95_0 (hR : hB TR 1 x R m) (hA : hB TA 19 (x + 26) A m) (hl : R.1 0 6 = Int32.ofNat 1) (Z : OKA Y A h s) : dN e (d + 5) 95 [.ref x] m = rI (s 1) m := by
  have f12 := Z.1.1
  have f13 := Z.1.2.1
  have f14 := Z.1.2.2.1
  have f15 := Z.1.2.2.2.1.1
  have f16 := Z.1.2.2.2.1.2.1
  have fc := Z.1.2.2.2.1.2.2.1
  have fr := Z.1.2.2.2.1.2.2.2.1
  refine en95 (hR_c0 hR) fun t ht => ?_
  obtain ⟨u, rfl⟩ := fu 19 ht rfl
  simp -implicitDefEqProofs (disch := omega) only [↓reduceIte, q95_0, n152_0 hR hA hl, f13, bd_s, kI_r, kV_r, kL_r, rZ_1, rZ_0, rZ_b, rI_ite, bI_ite, ite_tf, ite_ft, bI0, bI1, bf_ite, nAdd, nMul, nLt, nEq, nEqM, nMEq, nMLt, nLtM, nMLt0, if_true, if_false, Nat.reduceAdd, Nat.reduceMul, Nat.zero_add, Nat.add_zero, decide_eq_true_eq, decide_true, decide_false, Nat.reduceEqDiff, Nat.reduceLT, Nat.reduceLeDiff, eq_self, Bool.false_eq_true, Bool.true_eq_false, Bool.not_eq_false', Bool.not_eq_true', ite_not, hR_c0 hR, hR_r0_0 hR, hR_r0_1 hR, hR_r0_2 hR, hR_r0_3 hR, hR_r0_4 hR, hR_r0_5 hR, hR_g0_6 hR, hA_c0 hA, hA_r0_0 hA, hA_r0_1 hA, hA_r0_2 hA, hA_r0_3 hA, hA_r0_4 hA, hA_r0_5 hA, hA_r0_6 hA, hA_r0_7 hA, hA_r0_8 hA, hA_r0_9 hA, hA_r0_10 hA, hA_r0_11 hA, hA_g0_12 hA, hA_g0_13 hA, hA_g0_14 hA, hA_g0_15 hA, hA_g0_16 hA, hA_c1 hA, hA_r1_0 hA, hA_r1_1 hA, hA_r1_2 hA, hA_r1_3 hA, hA_g1_4 hA, hA_a2 hA, hA_n2 hA, hA_a3 hA, hA_n3 hA, hA_a4 hA, hA_n4 hA, hA_a5 hA, hA_n5 hA, hA_c6 hA, hA_r6_0 hA, hA_r6_1 hA, hA_g6_2 hA, hA_a7 hA, hA_n7 hA, hA_a8 hA, hA_n8 hA, hA_a9 hA, hA_n9 hA, hA_a10 hA, hA_n10 hA, hA_a11 hA, hA_n11 hA, hA_a12 hA, hA_n12 hA, hA_a13 hA, hA_n13 hA, hA_a14 hA, hA_n14 hA, hA_a15 hA, hA_n15 hA, hA_a16 hA, hA_n16 hA, hA_a17 hA, hA_n17 hA, hA_a18 hA, hA_n18 hA, kV_th, kI_th, Nat.not_lt_zero]
theorem a96_1 (hR : hB TR 1 x R m) (hA : hB TA 19 (x + 26) A m) (hl : R.1 0 6 = Int32.ofNat 0) : dN e (d + 5) 96 [.ref x] m = dTh 1 m := by
  refine en96 (hR_c0 hR) fun t ht => ?_
  obtain ⟨u, rfl⟩ := fu 19 ht rfl
  simp -implicitDefEqProofs (disch := omega) only [↓reduceIte, q96_0, n152_1 hR hA hl, bd_s, kI_r, kV_r, kL_r, rZ_1, rZ_0, rZ_b, rI_ite, bI_ite, ite_tf, ite_ft, bI0, bI1, bf_ite, nAdd, nMul, nLt, nEq, nEqM, nMEq, nMLt, nLtM, nMLt0, if_true, if_false, Nat.reduceAdd, Nat.reduceMul, Nat.zero_add, Nat.add_zero, decide_eq_true_eq, decide_true, decide_false, Nat.reduceEqDiff, Nat.reduceLT, Nat.reduceLeDiff, eq_self, Bool.false_eq_true, Bool.true_eq_false, Bool.not_eq_false', Bool.not_eq_true', ite_not, hR_c0 hR, hR_r0_0 hR, hR_r0_1 hR, hR_r0_2 hR, hR_r0_3 hR, hR_r0_4 hR, hR_r0_5 hR, hR_g0_6 hR, hA_c0 hA, hA_r0_0 hA, hA_r0_1 hA, hA_r0_2 hA, hA_r0_3 hA, hA_r0_4 hA, hA_r0_5 hA, hA_r0_6 hA, hA_r0_7 hA, hA_r0_8 hA, hA_r0_9 hA, hA_r0_10 hA, hA_r0_11 hA, hA_g0_12 hA, hA_g0_13 hA, hA_g0_14 hA, hA_g0_15 hA, hA_g0_16 hA, hA_c1 hA, hA_r1_0 hA, hA_r1_1 hA, hA_r1_2 hA, hA_r1_3 hA, hA_g1_4 hA, hA_a2 hA, hA_n2 hA, hA_a3 hA, hA_n3 hA, hA_a4 hA, hA_n4 hA, hA_a5 hA, hA_n5 hA, hA_c6 hA, hA_r6_0 hA, hA_r6_1 hA, hA_g6_2 hA, hA_a7 hA, hA_n7 hA, hA_a8 hA, hA_n8 hA, hA_a9 hA, hA_n9 hA, hA_a10 hA, hA_n10 hA, hA_a11 hA, hA_n11 hA, hA_a12 hA, hA_n12 hA, hA_a13 hA, hA_n13 hA, hA_a14 hA, hA_n14 hA, hA_a15 hA, hA_n15 hA, hA_a16 hA, hA_n16 hA, hA_a17 hA, hA_n17 hA, hA_a18 hA, hA_n18 hA, kV_th, kI_th, Nat.not_lt_zero]
theorem a96_0 (hR : hB TR 1 x R m) (hA : hB TA 19 (x + 26) A m) (hl : R.1 0 6 = Int32.ofNat 1) (Z : OKA Y A h s) : dN e (d + 5) 96 [.ref x] m = rI (h 3) m := by
  have f12 := Z.1.1
  have f13 := Z.1.2.1
  have f14 := Z.1.2.2.1
  have f15 := Z.1.2.2.2.1.1
  have f16 := Z.1.2.2.2.1.2.1
  have fc := Z.1.2.2.2.1.2.2.1
  have fr := Z.1.2.2.2.1.2.2.2.1
  refine en96 (hR_c0 hR) fun t ht => ?_
  obtain ⟨u, rfl⟩ := fu 19 ht rfl
  simp -implicitDefEqProofs (disch := omega) only [↓reduceIte, q96_0, n152_0 hR hA hl, fr, bd_s, kI_r, kV_r, kL_r, rZ_1, rZ_0, rZ_b, rI_ite, bI_ite, ite_tf, ite_ft, bI0, bI1, bf_ite, nAdd, nMul, nLt, nEq, nEqM, nMEq, nMLt, nLtM, nMLt0, if_true, if_false, Nat.reduceAdd, Nat.reduceMul, Nat.zero_add, Nat.add_zero, decide_eq_true_eq, decide_true, decide_false, Nat.reduceEqDiff, Nat.reduceLT, Nat.reduceLeDiff, eq_self, Bool.false_eq_true, Bool.true_eq_false, Bool.not_eq_false', Bool.not_eq_true', ite_not, hR_c0 hR, hR_r0_0 hR, hR_r0_1 hR, hR_r0_2 hR, hR_r0_3 hR, hR_r0_4 hR, hR_r0_5 hR, hR_g0_6 hR, hA_c0 hA, hA_r0_0 hA, hA_r0_1 hA, hA_r0_2 hA, hA_r0_3 hA, hA_r0_4 hA, hA_r0_5 hA, hA_r0_6 hA, hA_r0_7 hA, hA_r0_8 hA, hA_r0_9 hA, hA_r0_10 hA, hA_r0_11 hA, hA_g0_12 hA, hA_g0_13 hA, hA_g0_14 hA, hA_g0_15 hA, hA_g0_16 hA, hA_c1 hA, hA_r1_0 hA, hA_r1_1 hA, hA_r1_2 hA, hA_r1_3 hA, hA_g1_4 hA, hA_a2 hA, hA_n2 hA, hA_a3 hA, hA_n3 hA, hA_a4 hA, hA_n4 hA, hA_a5 hA, hA_n5 hA, hA_c6 hA, hA_r6_0 hA, hA_r6_1 hA, hA_g6_2 hA, hA_a7 hA, hA_n7 hA, hA_a8 hA, hA_n8 hA, hA_a9 hA, hA_n9 hA, hA_a10 hA, hA_n10 hA, hA_a11 hA, hA_n11 hA, hA_a12 hA, hA_n12 hA, hA_a13 hA, hA_n13 hA, hA_a14 hA, hA_n14 hA, hA_a15 hA, hA_n15 hA, hA_a16 hA, hA_n16 hA, hA_a17 hA, hA_n17 hA, hA_a18 hA, hA_n18 hA, kV_th, kI_th, Nat.not_lt_zero]
theorem a97_1 (hR : hB TR 1 x R m) (hA : hB TA 19 (x + 26) A m) (hl : R.1 0 6 = Int32.ofNat 0) : dN e (d + 5) 97 [.ref x] m = dTh 1 m := by
  refine en97 (hR_c0 hR) fun t ht => ?_
  obtain ⟨u, rfl⟩ := fu 19 ht rfl
  simp -implicitDefEqProofs (disch := omega) only [↓reduceIte, q97_0, n152_1 hR hA hl, bd_s, kI_r, kV_r, kL_r, rZ_1, rZ_0, rZ_b, rI_ite, bI_ite, ite_tf, ite_ft, bI0, bI1, bf_ite, nAdd, nMul, nLt, nEq, nEqM, nMEq, nMLt, nLtM, nMLt0, if_true, if_false, Nat.reduceAdd, Nat.reduceMul, Nat.zero_add, Nat.add_zero, decide_eq_true_eq, decide_true, decide_false, Nat.reduceEqDiff, Nat.reduceLT, Nat.reduceLeDiff, eq_self, Bool.false_eq_true, Bool.true_eq_false, Bool.not_eq_false', Bool.not_eq_true', ite_not, hR_c0 hR, hR_r0_0 hR, hR_r0_1 hR, hR_r0_2 hR, hR_r0_3 hR, hR_r0_4 hR, hR_r0_5 hR, hR_g0_6 hR, hA_c0 hA, hA_r0_0 hA, hA_r0_1 hA, hA_r0_2 hA, hA_r0_3 hA, hA_r0_4 hA, hA_r0_5 hA, hA_r0_6 hA, hA_r0_7 hA, hA_r0_8 hA, hA_r0_9 hA, hA_r0_10 hA, hA_r0_11 hA, hA_g0_12 hA, hA_g0_13 hA, hA_g0_14 hA, hA_g0_15 hA, hA_g0_16 hA, hA_c1 hA, hA_r1_0 hA, hA_r1_1 hA, hA_r1_2 hA, hA_r1_3 hA, hA_g1_4 hA, hA_a2 hA, hA_n2 hA, hA_a3 hA, hA_n3 hA, hA_a4 hA, hA_n4 hA, hA_a5 hA, hA_n5 hA, hA_c6 hA, hA_r6_0 hA, hA_r6_1 hA, hA_g6_2 hA, hA_a7 hA, hA_n7 hA, hA_a8 hA, hA_n8 hA, hA_a9 hA, hA_n9 hA, hA_a10 hA, hA_n10 hA, hA_a11 hA, hA_n11 hA, hA_a12 hA, hA_n12 hA, hA_a13 hA, hA_n13 hA, hA_a14 hA, hA_n14 hA, hA_a15 hA, hA_n15 hA, hA_a16 hA, hA_n16 hA, hA_a17 hA, hA_n17 hA, hA_a18 hA, hA_n18 hA, kV_th, kI_th, Nat.not_lt_zero]
theorem a97_0 (hR : hB TR 1 x R m) (hA : hB TA 19 (x + 26) A m) (hl : R.1 0 6 = Int32.ofNat 1) (Z : OKA Y A h s) : dN e (d + 5) 97 [.ref x] m = rI (h 0) m := by
  have f12 := Z.1.1
  have f13 := Z.1.2.1
  have f14 := Z.1.2.2.1
  have f15 := Z.1.2.2.2.1.1
  have f16 := Z.1.2.2.2.1.2.1
  have fc := Z.1.2.2.2.1.2.2.1
  have fr := Z.1.2.2.2.1.2.2.2.1
  refine en97 (hR_c0 hR) fun t ht => ?_
  obtain ⟨u, rfl⟩ := fu 19 ht rfl
  simp -implicitDefEqProofs (disch := omega) only [↓reduceIte, q97_0, n152_0 hR hA hl, f15, bd_s, kI_r, kV_r, kL_r, rZ_1, rZ_0, rZ_b, rI_ite, bI_ite, ite_tf, ite_ft, bI0, bI1, bf_ite, nAdd, nMul, nLt, nEq, nEqM, nMEq, nMLt, nLtM, nMLt0, if_true, if_false, Nat.reduceAdd, Nat.reduceMul, Nat.zero_add, Nat.add_zero, decide_eq_true_eq, decide_true, decide_false, Nat.reduceEqDiff, Nat.reduceLT, Nat.reduceLeDiff, eq_self, Bool.false_eq_true, Bool.true_eq_false, Bool.not_eq_false', Bool.not_eq_true', ite_not, hR_c0 hR, hR_r0_0 hR, hR_r0_1 hR, hR_r0_2 hR, hR_r0_3 hR, hR_r0_4 hR, hR_r0_5 hR, hR_g0_6 hR, hA_c0 hA, hA_r0_0 hA, hA_r0_1 hA, hA_r0_2 hA, hA_r0_3 hA, hA_r0_4 hA, hA_r0_5 hA, hA_r0_6 hA, hA_r0_7 hA, hA_r0_8 hA, hA_r0_9 hA, hA_r0_10 hA, hA_r0_11 hA, hA_g0_12 hA, hA_g0_13 hA, hA_g0_14 hA, hA_g0_15 hA, hA_g0_16 hA, hA_c1 hA, hA_r1_0 hA, hA_r1_1 hA, hA_r1_2 hA, hA_r1_3 hA, hA_g1_4 hA, hA_a2 hA, hA_n2 hA, hA_a3 hA, hA_n3 hA, hA_a4 hA, hA_n4 hA, hA_a5 hA, hA_n5 hA, hA_c6 hA, hA_r6_0 hA, hA_r6_1 hA, hA_g6_2 hA, hA_a7 hA, hA_n7 hA, hA_a8 hA, hA_n8 hA, hA_a9 hA, hA_n9 hA, hA_a10 hA, hA_n10 hA, hA_a11 hA, hA_n11 hA, hA_a12 hA, hA_n12 hA, hA_a13 hA, hA_n13 hA, hA_a14 hA, hA_n14 hA, hA_a15 hA, hA_n15 hA, hA_a16 hA, hA_n16 hA, hA_a17 hA, hA_n17 hA, hA_a18 hA, hA_n18 hA, kV_th, kI_th, Nat.not_lt_zero]
theorem a98_1 (hR : hB TR 1 x R m) (hA : hB TA 19 (x + 26) A m) (hl : R.1 0 6 = Int32.ofNat 0) : dN e (d + 5) 98 [.ref x] m = dTh 1 m := by
  refine en98 (hR_c0 hR) fun t ht => ?_
  obtain ⟨u, rfl⟩ := fu 19 ht rfl
  simp -implicitDefEqProofs (disch := omega) only [↓reduceIte, q98_0, n152_1 hR hA hl, bd_s, kI_r, kV_r, kL_r, rZ_1, rZ_0, rZ_b, rI_ite, bI_ite, ite_tf, ite_ft, bI0, bI1, bf_ite, nAdd, nMul, nLt, nEq, nEqM, nMEq, nMLt, nLtM, nMLt0, if_true, if_false, Nat.reduceAdd, Nat.reduceMul, Nat.zero_add, Nat.add_zero, decide_eq_true_eq, decide_true, decide_false, Nat.reduceEqDiff, Nat.reduceLT, Nat.reduceLeDiff, eq_self, Bool.false_eq_true, Bool.true_eq_false, Bool.not_eq_false', Bool.not_eq_true', ite_not, hR_c0 hR, hR_r0_0 hR, hR_r0_1 hR, hR_r0_2 hR, hR_r0_3 hR, hR_r0_4 hR, hR_r0_5 hR, hR_g0_6 hR, hA_c0 hA, hA_r0_0 hA, hA_r0_1 hA, hA_r0_2 hA, hA_r0_3 hA, hA_r0_4 hA, hA_r0_5 hA, hA_r0_6 hA, hA_r0_7 hA, hA_r0_8 hA, hA_r0_9 hA, hA_r0_10 hA, hA_r0_11 hA, hA_g0_12 hA, hA_g0_13 hA, hA_g0_14 hA, hA_g0_15 hA, hA_g0_16 hA, hA_c1 hA, hA_r1_0 hA, hA_r1_1 hA, hA_r1_2 hA, hA_r1_3 hA, hA_g1_4 hA, hA_a2 hA, hA_n2 hA, hA_a3 hA, hA_n3 hA, hA_a4 hA, hA_n4 hA, hA_a5 hA, hA_n5 hA, hA_c6 hA, hA_r6_0 hA, hA_r6_1 hA, hA_g6_2 hA, hA_a7 hA, hA_n7 hA, hA_a8 hA, hA_n8 hA, hA_a9 hA, hA_n9 hA, hA_a10 hA, hA_n10 hA, hA_a11 hA, hA_n11 hA, hA_a12 hA, hA_n12 hA, hA_a13 hA, hA_n13 hA, hA_a14 hA, hA_n14 hA, hA_a15 hA, hA_n15 hA, hA_a16 hA, hA_n16 hA, hA_a17 hA, hA_n17 hA, hA_a18 hA, hA_n18 hA, kV_th, kI_th, Nat.not_lt_zero]
theorem a98_0 (hR : hB TR 1 x R m) (hA : hB TA 19 (x + 26) A m) (hl : R.1 0 6 = Int32.ofNat 1) (Z : OKA Y A h s) : dN e (d + 5) 98 [.ref x] m = rI (h 1) m := by
  have f12 := Z.1.1
  have f13 := Z.1.2.1
  have f14 := Z.1.2.2.1
  have f15 := Z.1.2.2.2.1.1
  have f16 := Z.1.2.2.2.1.2.1
  have fc := Z.1.2.2.2.1.2.2.1
  have fr := Z.1.2.2.2.1.2.2.2.1
  refine en98 (hR_c0 hR) fun t ht => ?_
  obtain ⟨u, rfl⟩ := fu 19 ht rfl
  simp -implicitDefEqProofs (disch := omega) only [↓reduceIte, q98_0, n152_0 hR hA hl, f16, bd_s, kI_r, kV_r, kL_r, rZ_1, rZ_0, rZ_b, rI_ite, bI_ite, ite_tf, ite_ft, bI0, bI1, bf_ite, nAdd, nMul, nLt, nEq, nEqM, nMEq, nMLt, nLtM, nMLt0, if_true, if_false, Nat.reduceAdd, Nat.reduceMul, Nat.zero_add, Nat.add_zero, decide_eq_true_eq, decide_true, decide_false, Nat.reduceEqDiff, Nat.reduceLT, Nat.reduceLeDiff, eq_self, Bool.false_eq_true, Bool.true_eq_false, Bool.not_eq_false', Bool.not_eq_true', ite_not, hR_c0 hR, hR_r0_0 hR, hR_r0_1 hR, hR_r0_2 hR, hR_r0_3 hR, hR_r0_4 hR, hR_r0_5 hR, hR_g0_6 hR, hA_c0 hA, hA_r0_0 hA, hA_r0_1 hA, hA_r0_2 hA, hA_r0_3 hA, hA_r0_4 hA, hA_r0_5 hA, hA_r0_6 hA, hA_r0_7 hA, hA_r0_8 hA, hA_r0_9 hA, hA_r0_10 hA, hA_r0_11 hA, hA_g0_12 hA, hA_g0_13 hA, hA_g0_14 hA, hA_g0_15 hA, hA_g0_16 hA, hA_c1 hA, hA_r1_0 hA, hA_r1_1 hA, hA_r1_2 hA, hA_r1_3 hA, hA_g1_4 hA, hA_a2 hA, hA_n2 hA, hA_a3 hA, hA_n3 hA, hA_a4 hA, hA_n4 hA, hA_a5 hA, hA_n5 hA, hA_c6 hA, hA_r6_0 hA, hA_r6_1 hA, hA_g6_2 hA, hA_a7 hA, hA_n7 hA, hA_a8 hA, hA_n8 hA, hA_a9 hA, hA_n9 hA, hA_a10 hA, hA_n10 hA, hA_a11 hA, hA_n11 hA, hA_a12 hA, hA_n12 hA, hA_a13 hA, hA_n13 hA, hA_a14 hA, hA_n14 hA, hA_a15 hA, hA_n15 hA, hA_a16 hA, hA_n16 hA, hA_a17 hA, hA_n17 hA, hA_a18 hA, hA_n18 hA, kV_th, kI_th, Nat.not_lt_zero]
theorem a121_1 (hR : hB TR 1 x R m) (hA : hB TA 19 (x + 26) A m) (hl : R.1 0 6 = Int32.ofNat 0) : dN e (d + 5) 121 [.ref x] m = dTh 1 m := by
  refine en121 (hR_c0 hR) fun t ht => ?_
  obtain ⟨u, rfl⟩ := fu 19 ht rfl
  simp -implicitDefEqProofs (disch := omega) only [↓reduceIte, q121_0, n152_1 hR hA hl, bd_s, kI_r, kV_r, kL_r, rZ_1, rZ_0, rZ_b, rI_ite, bI_ite, ite_tf, ite_ft, bI0, bI1, bf_ite, nAdd, nMul, nLt, nEq, nEqM, nMEq, nMLt, nLtM, nMLt0, if_true, if_false, Nat.reduceAdd, Nat.reduceMul, Nat.zero_add, Nat.add_zero, decide_eq_true_eq, decide_true, decide_false, Nat.reduceEqDiff, Nat.reduceLT, Nat.reduceLeDiff, eq_self, Bool.false_eq_true, Bool.true_eq_false, Bool.not_eq_false', Bool.not_eq_true', ite_not, hR_c0 hR, hR_r0_0 hR, hR_r0_1 hR, hR_r0_2 hR, hR_r0_3 hR, hR_r0_4 hR, hR_r0_5 hR, hR_g0_6 hR, hA_c0 hA, hA_r0_0 hA, hA_r0_1 hA, hA_r0_2 hA, hA_r0_3 hA, hA_r0_4 hA, hA_r0_5 hA, hA_r0_6 hA, hA_r0_7 hA, hA_r0_8 hA, hA_r0_9 hA, hA_r0_10 hA, hA_r0_11 hA, hA_g0_12 hA, hA_g0_13 hA, hA_g0_14 hA, hA_g0_15 hA, hA_g0_16 hA, hA_c1 hA, hA_r1_0 hA, hA_r1_1 hA, hA_r1_2 hA, hA_r1_3 hA, hA_g1_4 hA, hA_a2 hA, hA_n2 hA, hA_a3 hA, hA_n3 hA, hA_a4 hA, hA_n4 hA, hA_a5 hA, hA_n5 hA, hA_c6 hA, hA_r6_0 hA, hA_r6_1 hA, hA_g6_2 hA, hA_a7 hA, hA_n7 hA, hA_a8 hA, hA_n8 hA, hA_a9 hA, hA_n9 hA, hA_a10 hA, hA_n10 hA, hA_a11 hA, hA_n11 hA, hA_a12 hA, hA_n12 hA, hA_a13 hA, hA_n13 hA, hA_a14 hA, hA_n14 hA, hA_a15 hA, hA_n15 hA, hA_a16 hA, hA_n16 hA, hA_a17 hA, hA_n17 hA, hA_a18 hA, hA_n18 hA, kV_th, kI_th, Nat.not_lt_zero]
theorem a121_0 (hR : hB TR 1 x R m) (hA : hB TA 19 (x + 26) A m) (hl : R.1 0 6 = Int32.ofNat 1) (Z : OKA Y A h s) : dN e (d + 5) 121 [.ref x] m = rI (s 2) m := by
  have f12 := Z.1.1
  have f13 := Z.1.2.1
  have f14 := Z.1.2.2.1
  have f15 := Z.1.2.2.2.1.1
  have f16 := Z.1.2.2.2.1.2.1
  have fc := Z.1.2.2.2.1.2.2.1
  have fr := Z.1.2.2.2.1.2.2.2.1
  refine en121 (hR_c0 hR) fun t ht => ?_
  obtain ⟨u, rfl⟩ := fu 19 ht rfl
  simp -implicitDefEqProofs (disch := omega) only [↓reduceIte, q121_0, n152_0 hR hA hl, f12, bd_s, kI_r, kV_r, kL_r, rZ_1, rZ_0, rZ_b, rI_ite, bI_ite, ite_tf, ite_ft, bI0, bI1, bf_ite, nAdd, nMul, nLt, nEq, nEqM, nMEq, nMLt, nLtM, nMLt0, if_true, if_false, Nat.reduceAdd, Nat.reduceMul, Nat.zero_add, Nat.add_zero, decide_eq_true_eq, decide_true, decide_false, Nat.reduceEqDiff, Nat.reduceLT, Nat.reduceLeDiff, eq_self, Bool.false_eq_true, Bool.true_eq_false, Bool.not_eq_false', Bool.not_eq_true', ite_not, hR_c0 hR, hR_r0_0 hR, hR_r0_1 hR, hR_r0_2 hR, hR_r0_3 hR, hR_r0_4 hR, hR_r0_5 hR, hR_g0_6 hR, hA_c0 hA, hA_r0_0 hA, hA_r0_1 hA, hA_r0_2 hA, hA_r0_3 hA, hA_r0_4 hA, hA_r0_5 hA, hA_r0_6 hA, hA_r0_7 hA, hA_r0_8 hA, hA_r0_9 hA, hA_r0_10 hA, hA_r0_11 hA, hA_g0_12 hA, hA_g0_13 hA, hA_g0_14 hA, hA_g0_15 hA, hA_g0_16 hA, hA_c1 hA, hA_r1_0 hA, hA_r1_1 hA, hA_r1_2 hA, hA_r1_3 hA, hA_g1_4 hA, hA_a2 hA, hA_n2 hA, hA_a3 hA, hA_n3 hA, hA_a4 hA, hA_n4 hA, hA_a5 hA, hA_n5 hA, hA_c6 hA, hA_r6_0 hA, hA_r6_1 hA, hA_g6_2 hA, hA_a7 hA, hA_n7 hA, hA_a8 hA, hA_n8 hA, hA_a9 hA, hA_n9 hA, hA_a10 hA, hA_n10 hA, hA_a11 hA, hA_n11 hA, hA_a12 hA, hA_n12 hA, hA_a13 hA, hA_n13 hA, hA_a14 hA, hA_n14 hA, hA_a15 hA, hA_n15 hA, hA_a16 hA, hA_n16 hA, hA_a17 hA, hA_n17 hA, hA_a18 hA, hA_n18 hA, kV_th, kI_th, Nat.not_lt_zero]
theorem a99_1 (hR : hB TR 1 x R m) (hA : hB TA 19 (x + 26) A m) (hl : R.1 0 6 = Int32.ofNat 0) : dN e (d + 5) 99 [.ref x] m = dTh 1 m := by
  refine en99 (hR_c0 hR) fun t ht => ?_
  obtain ⟨u, rfl⟩ := fu 19 ht rfl
  simp -implicitDefEqProofs (disch := omega) only [↓reduceIte, q99_0, n152_1 hR hA hl, bd_s, kI_r, kV_r, kL_r, rZ_1, rZ_0, rZ_b, rI_ite, bI_ite, ite_tf, ite_ft, bI0, bI1, bf_ite, nAdd, nMul, nLt, nEq, nEqM, nMEq, nMLt, nLtM, nMLt0, if_true, if_false, Nat.reduceAdd, Nat.reduceMul, Nat.zero_add, Nat.add_zero, decide_eq_true_eq, decide_true, decide_false, Nat.reduceEqDiff, Nat.reduceLT, Nat.reduceLeDiff, eq_self, Bool.false_eq_true, Bool.true_eq_false, Bool.not_eq_false', Bool.not_eq_true', ite_not, hR_c0 hR, hR_r0_0 hR, hR_r0_1 hR, hR_r0_2 hR, hR_r0_3 hR, hR_r0_4 hR, hR_r0_5 hR, hR_g0_6 hR, hA_c0 hA, hA_r0_0 hA, hA_r0_1 hA, hA_r0_2 hA, hA_r0_3 hA, hA_r0_4 hA, hA_r0_5 hA, hA_r0_6 hA, hA_r0_7 hA, hA_r0_8 hA, hA_r0_9 hA, hA_r0_10 hA, hA_r0_11 hA, hA_g0_12 hA, hA_g0_13 hA, hA_g0_14 hA, hA_g0_15 hA, hA_g0_16 hA, hA_c1 hA, hA_r1_0 hA, hA_r1_1 hA, hA_r1_2 hA, hA_r1_3 hA, hA_g1_4 hA, hA_a2 hA, hA_n2 hA, hA_a3 hA, hA_n3 hA, hA_a4 hA, hA_n4 hA, hA_a5 hA, hA_n5 hA, hA_c6 hA, hA_r6_0 hA, hA_r6_1 hA, hA_g6_2 hA, hA_a7 hA, hA_n7 hA, hA_a8 hA, hA_n8 hA, hA_a9 hA, hA_n9 hA, hA_a10 hA, hA_n10 hA, hA_a11 hA, hA_n11 hA, hA_a12 hA, hA_n12 hA, hA_a13 hA, hA_n13 hA, hA_a14 hA, hA_n14 hA, hA_a15 hA, hA_n15 hA, hA_a16 hA, hA_n16 hA, hA_a17 hA, hA_n17 hA, hA_a18 hA, hA_n18 hA, kV_th, kI_th, Nat.not_lt_zero]
theorem a99_0 (hR : hB TR 1 x R m) (hA : hB TA 19 (x + 26) A m) (hl : R.1 0 6 = Int32.ofNat 1) (Z : OKA Y A h s) : dN e (d + 5) 99 [.ref x] m = rI (Int32.ofNat (freS s h)) m := by
  have g := k_free (e := e) (a := x + 26) (d := d + 2) (m := m) Z.z 
  rw [ov_self hA] at g
  refine en99 (hR_c0 hR) fun t ht => ?_
  obtain ⟨u, rfl⟩ := fu 19 ht rfl
  simp -implicitDefEqProofs (disch := omega) only [↓reduceIte, q99_0, n152_0 hR hA hl, g, bd_s, kI_r, kV_r, kL_r, rZ_1, rZ_0, rZ_b, rI_ite, bI_ite, ite_tf, ite_ft, bI0, bI1, bf_ite, nAdd, nMul, nLt, nEq, nEqM, nMEq, nMLt, nLtM, nMLt0, if_true, if_false, Nat.reduceAdd, Nat.reduceMul, Nat.zero_add, Nat.add_zero, decide_eq_true_eq, decide_true, decide_false, Nat.reduceEqDiff, Nat.reduceLT, Nat.reduceLeDiff, eq_self, Bool.false_eq_true, Bool.true_eq_false, Bool.not_eq_false', Bool.not_eq_true', ite_not, hR_c0 hR, hR_r0_0 hR, hR_r0_1 hR, hR_r0_2 hR, hR_r0_3 hR, hR_r0_4 hR, hR_r0_5 hR, hR_g0_6 hR, hA_c0 hA, hA_r0_0 hA, hA_r0_1 hA, hA_r0_2 hA, hA_r0_3 hA, hA_r0_4 hA, hA_r0_5 hA, hA_r0_6 hA, hA_r0_7 hA, hA_r0_8 hA, hA_r0_9 hA, hA_r0_10 hA, hA_r0_11 hA, hA_g0_12 hA, hA_g0_13 hA, hA_g0_14 hA, hA_g0_15 hA, hA_g0_16 hA, hA_c1 hA, hA_r1_0 hA, hA_r1_1 hA, hA_r1_2 hA, hA_r1_3 hA, hA_g1_4 hA, hA_a2 hA, hA_n2 hA, hA_a3 hA, hA_n3 hA, hA_a4 hA, hA_n4 hA, hA_a5 hA, hA_n5 hA, hA_c6 hA, hA_r6_0 hA, hA_r6_1 hA, hA_g6_2 hA, hA_a7 hA, hA_n7 hA, hA_a8 hA, hA_n8 hA, hA_a9 hA, hA_n9 hA, hA_a10 hA, hA_n10 hA, hA_a11 hA, hA_n11 hA, hA_a12 hA, hA_n12 hA, hA_a13 hA, hA_n13 hA, hA_a14 hA, hA_n14 hA, hA_a15 hA, hA_n15 hA, hA_a16 hA, hA_n16 hA, hA_a17 hA, hA_n17 hA, hA_a18 hA, hA_n18 hA, kV_th, kI_th, Nat.not_lt_zero]
theorem a100_1 (hR : hB TR 1 x R m) (hA : hB TA 19 (x + 26) A m) (hl : R.1 0 6 = Int32.ofNat 0) : dN e (d + 5) 100 [.ref x] m = dTh 1 m := by
  refine en100 (hR_c0 hR) fun t ht => ?_
  obtain ⟨u, rfl⟩ := fu 19 ht rfl
  simp -implicitDefEqProofs (disch := omega) only [↓reduceIte, q100_0, n152_1 hR hA hl, bd_s, kI_r, kV_r, kL_r, rZ_1, rZ_0, rZ_b, rI_ite, bI_ite, ite_tf, ite_ft, bI0, bI1, bf_ite, nAdd, nMul, nLt, nEq, nEqM, nMEq, nMLt, nLtM, nMLt0, if_true, if_false, Nat.reduceAdd, Nat.reduceMul, Nat.zero_add, Nat.add_zero, decide_eq_true_eq, decide_true, decide_false, Nat.reduceEqDiff, Nat.reduceLT, Nat.reduceLeDiff, eq_self, Bool.false_eq_true, Bool.true_eq_false, Bool.not_eq_false', Bool.not_eq_true', ite_not, hR_c0 hR, hR_r0_0 hR, hR_r0_1 hR, hR_r0_2 hR, hR_r0_3 hR, hR_r0_4 hR, hR_r0_5 hR, hR_g0_6 hR, hA_c0 hA, hA_r0_0 hA, hA_r0_1 hA, hA_r0_2 hA, hA_r0_3 hA, hA_r0_4 hA, hA_r0_5 hA, hA_r0_6 hA, hA_r0_7 hA, hA_r0_8 hA, hA_r0_9 hA, hA_r0_10 hA, hA_r0_11 hA, hA_g0_12 hA, hA_g0_13 hA, hA_g0_14 hA, hA_g0_15 hA, hA_g0_16 hA, hA_c1 hA, hA_r1_0 hA, hA_r1_1 hA, hA_r1_2 hA, hA_r1_3 hA, hA_g1_4 hA, hA_a2 hA, hA_n2 hA, hA_a3 hA, hA_n3 hA, hA_a4 hA, hA_n4 hA, hA_a5 hA, hA_n5 hA, hA_c6 hA, hA_r6_0 hA, hA_r6_1 hA, hA_g6_2 hA, hA_a7 hA, hA_n7 hA, hA_a8 hA, hA_n8 hA, hA_a9 hA, hA_n9 hA, hA_a10 hA, hA_n10 hA, hA_a11 hA, hA_n11 hA, hA_a12 hA, hA_n12 hA, hA_a13 hA, hA_n13 hA, hA_a14 hA, hA_n14 hA, hA_a15 hA, hA_n15 hA, hA_a16 hA, hA_n16 hA, hA_a17 hA, hA_n17 hA, hA_a18 hA, hA_n18 hA, kV_th, kI_th, Nat.not_lt_zero]
theorem a100_0 (hR : hB TR 1 x R m) (hA : hB TA 19 (x + 26) A m) (hl : R.1 0 6 = Int32.ofNat 1) (Z : OKA Y A h s) : dN e (d + 5) 100 [.ref x] m = rI (fstS s h) m := by
  have g := k_fst (e := e) (a := x + 26) (d := d + 2) (m := m) Z.z 
  rw [ov_self hA] at g
  refine en100 (hR_c0 hR) fun t ht => ?_
  obtain ⟨u, rfl⟩ := fu 19 ht rfl
  simp -implicitDefEqProofs (disch := omega) only [↓reduceIte, q100_0, n152_0 hR hA hl, g, bd_s, kI_r, kV_r, kL_r, rZ_1, rZ_0, rZ_b, rI_ite, bI_ite, ite_tf, ite_ft, bI0, bI1, bf_ite, nAdd, nMul, nLt, nEq, nEqM, nMEq, nMLt, nLtM, nMLt0, if_true, if_false, Nat.reduceAdd, Nat.reduceMul, Nat.zero_add, Nat.add_zero, decide_eq_true_eq, decide_true, decide_false, Nat.reduceEqDiff, Nat.reduceLT, Nat.reduceLeDiff, eq_self, Bool.false_eq_true, Bool.true_eq_false, Bool.not_eq_false', Bool.not_eq_true', ite_not, hR_c0 hR, hR_r0_0 hR, hR_r0_1 hR, hR_r0_2 hR, hR_r0_3 hR, hR_r0_4 hR, hR_r0_5 hR, hR_g0_6 hR, hA_c0 hA, hA_r0_0 hA, hA_r0_1 hA, hA_r0_2 hA, hA_r0_3 hA, hA_r0_4 hA, hA_r0_5 hA, hA_r0_6 hA, hA_r0_7 hA, hA_r0_8 hA, hA_r0_9 hA, hA_r0_10 hA, hA_r0_11 hA, hA_g0_12 hA, hA_g0_13 hA, hA_g0_14 hA, hA_g0_15 hA, hA_g0_16 hA, hA_c1 hA, hA_r1_0 hA, hA_r1_1 hA, hA_r1_2 hA, hA_r1_3 hA, hA_g1_4 hA, hA_a2 hA, hA_n2 hA, hA_a3 hA, hA_n3 hA, hA_a4 hA, hA_n4 hA, hA_a5 hA, hA_n5 hA, hA_c6 hA, hA_r6_0 hA, hA_r6_1 hA, hA_g6_2 hA, hA_a7 hA, hA_n7 hA, hA_a8 hA, hA_n8 hA, hA_a9 hA, hA_n9 hA, hA_a10 hA, hA_n10 hA, hA_a11 hA, hA_n11 hA, hA_a12 hA, hA_n12 hA, hA_a13 hA, hA_n13 hA, hA_a14 hA, hA_n14 hA, hA_a15 hA, hA_n15 hA, hA_a16 hA, hA_n16 hA, hA_a17 hA, hA_n17 hA, hA_a18 hA, hA_n18 hA, kV_th, kI_th, Nat.not_lt_zero]
theorem a103_1 (hR : hB TR 1 x R m) (hA : hB TA 19 (x + 26) A m) (hl : R.1 0 6 = Int32.ofNat 0) : dN e (d + 5) 103 [.ref x] m = dTh 1 m := by
  refine en103 (hR_c0 hR) fun t ht => ?_
  obtain ⟨u, rfl⟩ := fu 19 ht rfl
  simp -implicitDefEqProofs (disch := omega) only [↓reduceIte, q103_0, n152_1 hR hA hl, bd_s, kI_r, kV_r, kL_r, rZ_1, rZ_0, rZ_b, rI_ite, bI_ite, ite_tf, ite_ft, bI0, bI1, bf_ite, nAdd, nMul, nLt, nEq, nEqM, nMEq, nMLt, nLtM, nMLt0, if_true, if_false, Nat.reduceAdd, Nat.reduceMul, Nat.zero_add, Nat.add_zero, decide_eq_true_eq, decide_true, decide_false, Nat.reduceEqDiff, Nat.reduceLT, Nat.reduceLeDiff, eq_self, Bool.false_eq_true, Bool.true_eq_false, Bool.not_eq_false', Bool.not_eq_true', ite_not, hR_c0 hR, hR_r0_0 hR, hR_r0_1 hR, hR_r0_2 hR, hR_r0_3 hR, hR_r0_4 hR, hR_r0_5 hR, hR_g0_6 hR, hA_c0 hA, hA_r0_0 hA, hA_r0_1 hA, hA_r0_2 hA, hA_r0_3 hA, hA_r0_4 hA, hA_r0_5 hA, hA_r0_6 hA, hA_r0_7 hA, hA_r0_8 hA, hA_r0_9 hA, hA_r0_10 hA, hA_r0_11 hA, hA_g0_12 hA, hA_g0_13 hA, hA_g0_14 hA, hA_g0_15 hA, hA_g0_16 hA, hA_c1 hA, hA_r1_0 hA, hA_r1_1 hA, hA_r1_2 hA, hA_r1_3 hA, hA_g1_4 hA, hA_a2 hA, hA_n2 hA, hA_a3 hA, hA_n3 hA, hA_a4 hA, hA_n4 hA, hA_a5 hA, hA_n5 hA, hA_c6 hA, hA_r6_0 hA, hA_r6_1 hA, hA_g6_2 hA, hA_a7 hA, hA_n7 hA, hA_a8 hA, hA_n8 hA, hA_a9 hA, hA_n9 hA, hA_a10 hA, hA_n10 hA, hA_a11 hA, hA_n11 hA, hA_a12 hA, hA_n12 hA, hA_a13 hA, hA_n13 hA, hA_a14 hA, hA_n14 hA, hA_a15 hA, hA_n15 hA, hA_a16 hA, hA_n16 hA, hA_a17 hA, hA_n17 hA, hA_a18 hA, hA_n18 hA, kV_th, kI_th, Nat.not_lt_zero]
theorem a103_0 (hR : hB TR 1 x R m) (hA : hB TA 19 (x + 26) A m) (hl : R.1 0 6 = Int32.ofNat 1) (Z : OKA Y A h s) : dN e (d + 5) 103 [.ref x] m = rI (Int32.ofNat (lntN s)) m := by
  have g := k_lentN (e := e) (a := x + 26) (d := d + 2) (m := m) Z.z 
  rw [ov_self hA] at g
  refine en103 (hR_c0 hR) fun t ht => ?_
  obtain ⟨u, rfl⟩ := fu 19 ht rfl
  simp -implicitDefEqProofs (disch := omega) only [↓reduceIte, q103_0, n152_0 hR hA hl, g, bd_s, kI_r, kV_r, kL_r, rZ_1, rZ_0, rZ_b, rI_ite, bI_ite, ite_tf, ite_ft, bI0, bI1, bf_ite, nAdd, nMul, nLt, nEq, nEqM, nMEq, nMLt, nLtM, nMLt0, if_true, if_false, Nat.reduceAdd, Nat.reduceMul, Nat.zero_add, Nat.add_zero, decide_eq_true_eq, decide_true, decide_false, Nat.reduceEqDiff, Nat.reduceLT, Nat.reduceLeDiff, eq_self, Bool.false_eq_true, Bool.true_eq_false, Bool.not_eq_false', Bool.not_eq_true', ite_not, hR_c0 hR, hR_r0_0 hR, hR_r0_1 hR, hR_r0_2 hR, hR_r0_3 hR, hR_r0_4 hR, hR_r0_5 hR, hR_g0_6 hR, hA_c0 hA, hA_r0_0 hA, hA_r0_1 hA, hA_r0_2 hA, hA_r0_3 hA, hA_r0_4 hA, hA_r0_5 hA, hA_r0_6 hA, hA_r0_7 hA, hA_r0_8 hA, hA_r0_9 hA, hA_r0_10 hA, hA_r0_11 hA, hA_g0_12 hA, hA_g0_13 hA, hA_g0_14 hA, hA_g0_15 hA, hA_g0_16 hA, hA_c1 hA, hA_r1_0 hA, hA_r1_1 hA, hA_r1_2 hA, hA_r1_3 hA, hA_g1_4 hA, hA_a2 hA, hA_n2 hA, hA_a3 hA, hA_n3 hA, hA_a4 hA, hA_n4 hA, hA_a5 hA, hA_n5 hA, hA_c6 hA, hA_r6_0 hA, hA_r6_1 hA, hA_g6_2 hA, hA_a7 hA, hA_n7 hA, hA_a8 hA, hA_n8 hA, hA_a9 hA, hA_n9 hA, hA_a10 hA, hA_n10 hA, hA_a11 hA, hA_n11 hA, hA_a12 hA, hA_n12 hA, hA_a13 hA, hA_n13 hA, hA_a14 hA, hA_n14 hA, hA_a15 hA, hA_n15 hA, hA_a16 hA, hA_n16 hA, hA_a17 hA, hA_n17 hA, hA_a18 hA, hA_n18 hA, kV_th, kI_th, Nat.not_lt_zero]
theorem a104_1 (hR : hB TR 1 x R m) (hA : hB TA 19 (x + 26) A m) (hl : R.1 0 6 = Int32.ofNat 0) : dN e (d + 5) 104 [.ref x] m = dTh 1 m := by
  refine en104 (hR_c0 hR) fun t ht => ?_
  obtain ⟨u, rfl⟩ := fu 19 ht rfl
  simp -implicitDefEqProofs (disch := omega) only [↓reduceIte, q104_0, n152_1 hR hA hl, bd_s, kI_r, kV_r, kL_r, rZ_1, rZ_0, rZ_b, rI_ite, bI_ite, ite_tf, ite_ft, bI0, bI1, bf_ite, nAdd, nMul, nLt, nEq, nEqM, nMEq, nMLt, nLtM, nMLt0, if_true, if_false, Nat.reduceAdd, Nat.reduceMul, Nat.zero_add, Nat.add_zero, decide_eq_true_eq, decide_true, decide_false, Nat.reduceEqDiff, Nat.reduceLT, Nat.reduceLeDiff, eq_self, Bool.false_eq_true, Bool.true_eq_false, Bool.not_eq_false', Bool.not_eq_true', ite_not, hR_c0 hR, hR_r0_0 hR, hR_r0_1 hR, hR_r0_2 hR, hR_r0_3 hR, hR_r0_4 hR, hR_r0_5 hR, hR_g0_6 hR, hA_c0 hA, hA_r0_0 hA, hA_r0_1 hA, hA_r0_2 hA, hA_r0_3 hA, hA_r0_4 hA, hA_r0_5 hA, hA_r0_6 hA, hA_r0_7 hA, hA_r0_8 hA, hA_r0_9 hA, hA_r0_10 hA, hA_r0_11 hA, hA_g0_12 hA, hA_g0_13 hA, hA_g0_14 hA, hA_g0_15 hA, hA_g0_16 hA, hA_c1 hA, hA_r1_0 hA, hA_r1_1 hA, hA_r1_2 hA, hA_r1_3 hA, hA_g1_4 hA, hA_a2 hA, hA_n2 hA, hA_a3 hA, hA_n3 hA, hA_a4 hA, hA_n4 hA, hA_a5 hA, hA_n5 hA, hA_c6 hA, hA_r6_0 hA, hA_r6_1 hA, hA_g6_2 hA, hA_a7 hA, hA_n7 hA, hA_a8 hA, hA_n8 hA, hA_a9 hA, hA_n9 hA, hA_a10 hA, hA_n10 hA, hA_a11 hA, hA_n11 hA, hA_a12 hA, hA_n12 hA, hA_a13 hA, hA_n13 hA, hA_a14 hA, hA_n14 hA, hA_a15 hA, hA_n15 hA, hA_a16 hA, hA_n16 hA, hA_a17 hA, hA_n17 hA, hA_a18 hA, hA_n18 hA, kV_th, kI_th, Nat.not_lt_zero]
theorem a104_0 (hR : hB TR 1 x R m) (hA : hB TA 19 (x + 26) A m) (hl : R.1 0 6 = Int32.ofNat 1) (Z : OKA Y A h s) : dN e (d + 5) 104 [.ref x] m = rI (faR s h (nN (h 3))) m := by
  have g := k_faults (e := e) (a := x + 26) (d := d + 1) (m := m) Z.z 
  rw [ov_self hA] at g
  refine en104 (hR_c0 hR) fun t ht => ?_
  obtain ⟨u, rfl⟩ := fu 19 ht rfl
  simp -implicitDefEqProofs (disch := omega) only [↓reduceIte, q104_0, n152_0 hR hA hl, g, bd_s, kI_r, kV_r, kL_r, rZ_1, rZ_0, rZ_b, rI_ite, bI_ite, ite_tf, ite_ft, bI0, bI1, bf_ite, nAdd, nMul, nLt, nEq, nEqM, nMEq, nMLt, nLtM, nMLt0, if_true, if_false, Nat.reduceAdd, Nat.reduceMul, Nat.zero_add, Nat.add_zero, decide_eq_true_eq, decide_true, decide_false, Nat.reduceEqDiff, Nat.reduceLT, Nat.reduceLeDiff, eq_self, Bool.false_eq_true, Bool.true_eq_false, Bool.not_eq_false', Bool.not_eq_true', ite_not, hR_c0 hR, hR_r0_0 hR, hR_r0_1 hR, hR_r0_2 hR, hR_r0_3 hR, hR_r0_4 hR, hR_r0_5 hR, hR_g0_6 hR, hA_c0 hA, hA_r0_0 hA, hA_r0_1 hA, hA_r0_2 hA, hA_r0_3 hA, hA_r0_4 hA, hA_r0_5 hA, hA_r0_6 hA, hA_r0_7 hA, hA_r0_8 hA, hA_r0_9 hA, hA_r0_10 hA, hA_r0_11 hA, hA_g0_12 hA, hA_g0_13 hA, hA_g0_14 hA, hA_g0_15 hA, hA_g0_16 hA, hA_c1 hA, hA_r1_0 hA, hA_r1_1 hA, hA_r1_2 hA, hA_r1_3 hA, hA_g1_4 hA, hA_a2 hA, hA_n2 hA, hA_a3 hA, hA_n3 hA, hA_a4 hA, hA_n4 hA, hA_a5 hA, hA_n5 hA, hA_c6 hA, hA_r6_0 hA, hA_r6_1 hA, hA_g6_2 hA, hA_a7 hA, hA_n7 hA, hA_a8 hA, hA_n8 hA, hA_a9 hA, hA_n9 hA, hA_a10 hA, hA_n10 hA, hA_a11 hA, hA_n11 hA, hA_a12 hA, hA_n12 hA, hA_a13 hA, hA_n13 hA, hA_a14 hA, hA_n14 hA, hA_a15 hA, hA_n15 hA, hA_a16 hA, hA_n16 hA, hA_a17 hA, hA_n17 hA, hA_a18 hA, hA_n18 hA, kV_th, kI_th, Nat.not_lt_zero]
theorem a132_1 (hR : hB TR 1 x R m) (hA : hB TA 19 (x + 26) A m) (hl : R.1 0 6 = Int32.ofNat 0) : dN e (d + 5) 132 [.ref x] m = dTh 1 m := by
  refine en132 (hR_c0 hR) fun t ht => ?_
  obtain ⟨u, rfl⟩ := fu 19 ht rfl
  simp -implicitDefEqProofs (disch := omega) only [↓reduceIte, q132_0, n152_1 hR hA hl, bd_s, kI_r, kV_r, kL_r, rZ_1, rZ_0, rZ_b, rI_ite, bI_ite, ite_tf, ite_ft, bI0, bI1, bf_ite, nAdd, nMul, nLt, nEq, nEqM, nMEq, nMLt, nLtM, nMLt0, if_true, if_false, Nat.reduceAdd, Nat.reduceMul, Nat.zero_add, Nat.add_zero, decide_eq_true_eq, decide_true, decide_false, Nat.reduceEqDiff, Nat.reduceLT, Nat.reduceLeDiff, eq_self, Bool.false_eq_true, Bool.true_eq_false, Bool.not_eq_false', Bool.not_eq_true', ite_not, hR_c0 hR, hR_r0_0 hR, hR_r0_1 hR, hR_r0_2 hR, hR_r0_3 hR, hR_r0_4 hR, hR_r0_5 hR, hR_g0_6 hR, hA_c0 hA, hA_r0_0 hA, hA_r0_1 hA, hA_r0_2 hA, hA_r0_3 hA, hA_r0_4 hA, hA_r0_5 hA, hA_r0_6 hA, hA_r0_7 hA, hA_r0_8 hA, hA_r0_9 hA, hA_r0_10 hA, hA_r0_11 hA, hA_g0_12 hA, hA_g0_13 hA, hA_g0_14 hA, hA_g0_15 hA, hA_g0_16 hA, hA_c1 hA, hA_r1_0 hA, hA_r1_1 hA, hA_r1_2 hA, hA_r1_3 hA, hA_g1_4 hA, hA_a2 hA, hA_n2 hA, hA_a3 hA, hA_n3 hA, hA_a4 hA, hA_n4 hA, hA_a5 hA, hA_n5 hA, hA_c6 hA, hA_r6_0 hA, hA_r6_1 hA, hA_g6_2 hA, hA_a7 hA, hA_n7 hA, hA_a8 hA, hA_n8 hA, hA_a9 hA, hA_n9 hA, hA_a10 hA, hA_n10 hA, hA_a11 hA, hA_n11 hA, hA_a12 hA, hA_n12 hA, hA_a13 hA, hA_n13 hA, hA_a14 hA, hA_n14 hA, hA_a15 hA, hA_n15 hA, hA_a16 hA, hA_n16 hA, hA_a17 hA, hA_n17 hA, hA_a18 hA, hA_n18 hA, kV_th, kI_th, Nat.not_lt_zero]
theorem a132_0 (hR : hB TR 1 x R m) (hA : hB TA 19 (x + 26) A m) (hl : R.1 0 6 = Int32.ofNat 1) (Z : OKA Y A h s) : dN e (d + 5) 132 [.ref x] m = rI (oI (ndF s h (nbS s))) m := by
  have g := k_first (e := e) (a := x + 26) (d := d + 2) (m := m) Z.z 
  rw [ov_self hA] at g
  refine en132 (hR_c0 hR) fun t ht => ?_
  obtain ⟨u, rfl⟩ := fu 19 ht rfl
  simp -implicitDefEqProofs (disch := omega) only [↓reduceIte, q132_0, n152_0 hR hA hl, g, bd_s, kI_r, kV_r, kL_r, rZ_1, rZ_0, rZ_b, rI_ite, bI_ite, ite_tf, ite_ft, bI0, bI1, bf_ite, nAdd, nMul, nLt, nEq, nEqM, nMEq, nMLt, nLtM, nMLt0, if_true, if_false, Nat.reduceAdd, Nat.reduceMul, Nat.zero_add, Nat.add_zero, decide_eq_true_eq, decide_true, decide_false, Nat.reduceEqDiff, Nat.reduceLT, Nat.reduceLeDiff, eq_self, Bool.false_eq_true, Bool.true_eq_false, Bool.not_eq_false', Bool.not_eq_true', ite_not, hR_c0 hR, hR_r0_0 hR, hR_r0_1 hR, hR_r0_2 hR, hR_r0_3 hR, hR_r0_4 hR, hR_r0_5 hR, hR_g0_6 hR, hA_c0 hA, hA_r0_0 hA, hA_r0_1 hA, hA_r0_2 hA, hA_r0_3 hA, hA_r0_4 hA, hA_r0_5 hA, hA_r0_6 hA, hA_r0_7 hA, hA_r0_8 hA, hA_r0_9 hA, hA_r0_10 hA, hA_r0_11 hA, hA_g0_12 hA, hA_g0_13 hA, hA_g0_14 hA, hA_g0_15 hA, hA_g0_16 hA, hA_c1 hA, hA_r1_0 hA, hA_r1_1 hA, hA_r1_2 hA, hA_r1_3 hA, hA_g1_4 hA, hA_a2 hA, hA_n2 hA, hA_a3 hA, hA_n3 hA, hA_a4 hA, hA_n4 hA, hA_a5 hA, hA_n5 hA, hA_c6 hA, hA_r6_0 hA, hA_r6_1 hA, hA_g6_2 hA, hA_a7 hA, hA_n7 hA, hA_a8 hA, hA_n8 hA, hA_a9 hA, hA_n9 hA, hA_a10 hA, hA_n10 hA, hA_a11 hA, hA_n11 hA, hA_a12 hA, hA_n12 hA, hA_a13 hA, hA_n13 hA, hA_a14 hA, hA_n14 hA, hA_a15 hA, hA_n15 hA, hA_a16 hA, hA_n16 hA, hA_a17 hA, hA_n17 hA, hA_a18 hA, hA_n18 hA, kV_th, kI_th, Nat.not_lt_zero]
end
end

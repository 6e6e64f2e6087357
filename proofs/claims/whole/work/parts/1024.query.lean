/-! ===== the queries on both sides (printed by wip/whole/qp.py) ===== -/
noncomputable section
section
variable {e : dEnv} {x C S0 YB : Nat} {m0 m : dMem} {R I H S M : bX} {Ar : Nat → bX} {l : List Nat}
theorem p6 (he : e.1 ≤ x) (Z : REL x m0 C S0 YB m R I H S Ar M l) : PAIR e x m0 C S0 YB 93 232 [] (ks1 1) m := by
  have hR : hB TR 1 x R m := Z.2.1.1
  have hA : hB TA 19 (x + 26) (Ar 0) m := Z.2.1.2.2.2.2 0 (by omega)
  rcases Z.2.2.2.2.2.2.2.2.2.2.1 with ⟨rl, ml, ub⟩ | ⟨rl, ml, Y, hY, W⟩
  · exact pair_e Z (E := 1) (a93_1 (d := 14) hR hA rl) (by decide) (by decide) (fun m' => m232_1 (d := 16) (by omega) ml)
  · exact pair_q0 Z (a93_0 (d := 14) hR hA rl W) (fun m' => m232_0 (d := 16) (by omega) ml)
theorem p7 (he : e.1 ≤ x) (Z : REL x m0 C S0 YB m R I H S Ar M l) : PAIR e x m0 C S0 YB 94 233 [] (ks1 1) m := by
  have hR : hB TR 1 x R m := Z.2.1.1
  have hA : hB TA 19 (x + 26) (Ar 0) m := Z.2.1.2.2.2.2 0 (by omega)
  rcases Z.2.2.2.2.2.2.2.2.2.2.1 with ⟨rl, ml, ub⟩ | ⟨rl, ml, Y, hY, W⟩
  · exact pair_e Z (E := 1) (a94_1 (d := 14) hR hA rl) (by decide) (by decide) (fun m' => m233_1 (d := 16) (by omega) ml)
  · exact pair_q0 Z (a94_0 (d := 14) hR hA rl W) (fun m' => m233_0 (d := 16) (by omega) ml)
theorem p8 (he : e.1 ≤ x) (Z : REL x m0 C S0 YB m R I H S Ar M l) : PAIR e x m0 C S0 YB 95 234 [] (ks1 1) m := by
  have hR : hB TR 1 x R m := Z.2.1.1
  have hA : hB TA 19 (x + 26) (Ar 0) m := Z.2.1.2.2.2.2 0 (by omega)
  rcases Z.2.2.2.2.2.2.2.2.2.2.1 with ⟨rl, ml, ub⟩ | ⟨rl, ml, Y, hY, W⟩
  · exact pair_e Z (E := 1) (a95_1 (d := 14) hR hA rl) (by decide) (by decide) (fun m' => m234_1 (d := 16) (by omega) ml)
  · exact pair_q0 Z (a95_0 (d := 14) hR hA rl W) (fun m' => m234_0 (d := 16) (by omega) ml)
theorem p9 (he : e.1 ≤ x) (Z : REL x m0 C S0 YB m R I H S Ar M l) : PAIR e x m0 C S0 YB 96 235 [] (ks1 1) m := by
  have hR : hB TR 1 x R m := Z.2.1.1
  have hA : hB TA 19 (x + 26) (Ar 0) m := Z.2.1.2.2.2.2 0 (by omega)
  rcases Z.2.2.2.2.2.2.2.2.2.2.1 with ⟨rl, ml, ub⟩ | ⟨rl, ml, Y, hY, W⟩
  · exact pair_e Z (E := 1) (a96_1 (d := 14) hR hA rl) (by decide) (by decide) (fun m' => m235_1 (d := 16) (by omega) ml)
  · exact pair_q0 Z (a96_0 (d := 14) hR hA rl W) (fun m' => m235_0 (d := 16) (by omega) ml)
theorem p10 (he : e.1 ≤ x) (Z : REL x m0 C S0 YB m R I H S Ar M l) : PAIR e x m0 C S0 YB 97 236 [] (ks1 1) m := by
  have hR : hB TR 1 x R m := Z.2.1.1
  have hA : hB TA 19 (x + 26) (Ar 0) m := Z.2.1.2.2.2.2 0 (by omega)
  rcases Z.2.2.2.2.2.2.2.2.2.2.1 with ⟨rl, ml, ub⟩ | ⟨rl, ml, Y, hY, W⟩
  · exact pair_e Z (E := 1) (a97_1 (d := 14) hR hA rl) (by decide) (by decide) (fun m' => m236_1 (d := 16) (by omega) ml)
  · exact pair_q0 Z (a97_0 (d := 14) hR hA rl W) (fun m' => m236_0 (d := 16) (by omega) ml)
theorem p11 (he : e.1 ≤ x) (Z : REL x m0 C S0 YB m R I H S Ar M l) : PAIR e x m0 C S0 YB 98 237 [] (ks1 1) m := by
  have hR : hB TR 1 x R m := Z.2.1.1
  have hA : hB TA 19 (x + 26) (Ar 0) m := Z.2.1.2.2.2.2 0 (by omega)
  rcases Z.2.2.2.2.2.2.2.2.2.2.1 with ⟨rl, ml, ub⟩ | ⟨rl, ml, Y, hY, W⟩
  · exact pair_e Z (E := 1) (a98_1 (d := 14) hR hA rl) (by decide) (by decide) (fun m' => m237_1 (d := 16) (by omega) ml)
  · exact pair_q0 Z (a98_0 (d := 14) hR hA rl W) (fun m' => m237_0 (d := 16) (by omega) ml)
theorem p12 (he : e.1 ≤ x) (Z : REL x m0 C S0 YB m R I H S Ar M l) : PAIR e x m0 C S0 YB 99 238 [] (ks1 1) m := by
  have hR : hB TR 1 x R m := Z.2.1.1
  have hA : hB TA 19 (x + 26) (Ar 0) m := Z.2.1.2.2.2.2 0 (by omega)
  rcases Z.2.2.2.2.2.2.2.2.2.2.1 with ⟨rl, ml, ub⟩ | ⟨rl, ml, Y, hY, W⟩
  · exact pair_e Z (E := 1) (a99_1 (d := 14) hR hA rl) (by decide) (by decide) (fun m' => m238_1 (d := 16) (by omega) ml)
  · exact pair_q0 Z (a99_0 (d := 14) hR hA rl W) (fun m' => m238_0 (d := 16) (by omega) ml W.2.1.1 W.2.2)
theorem p13 (he : e.1 ≤ x) (Z : REL x m0 C S0 YB m R I H S Ar M l) : PAIR e x m0 C S0 YB 100 239 [] (ks1 1) m := by
  have hR : hB TR 1 x R m := Z.2.1.1
  have hA : hB TA 19 (x + 26) (Ar 0) m := Z.2.1.2.2.2.2 0 (by omega)
  rcases Z.2.2.2.2.2.2.2.2.2.2.1 with ⟨rl, ml, ub⟩ | ⟨rl, ml, Y, hY, W⟩
  · exact pair_e Z (E := 1) (a100_1 (d := 14) hR hA rl) (by decide) (by decide) (fun m' => m239_1 (d := 16) (by omega) ml)
  · exact pair_q0 Z (a100_0 (d := 14) hR hA rl W) (fun m' => m239_0 (d := 16) (by omega) ml W.2.1.1 W.2.2)
theorem p15 (he : e.1 ≤ x) (Z : REL x m0 C S0 YB m R I H S Ar M l) : PAIR e x m0 C S0 YB 102 243 [] (ks1 1) m := by
  have hR : hB TR 1 x R m := Z.2.1.1
  have hA : hB TA 19 (x + 26) (Ar 0) m := Z.2.1.2.2.2.2 0 (by omega)
  rcases Z.2.2.2.2.2.2.2.2.2.2.1 with ⟨rl, ml, ub⟩ | ⟨rl, ml, Y, hY, W⟩
  · exact pair_e Z (E := 1) (a102_1 (d := 14) hR hA rl) (by decide) (by decide) (fun m' => m243_1 (d := 16) (by omega) ml ub)
  · exact pair_q0 Z (a102_0 (d := 14) hR hA rl W) (fun m' => m243_0 (d := 16) (by omega) ml W.2.1.1)
theorem p16 (he : e.1 ≤ x) (Z : REL x m0 C S0 YB m R I H S Ar M l) : PAIR e x m0 C S0 YB 103 245 [] (ks1 1) m := by
  have hR : hB TR 1 x R m := Z.2.1.1
  have hA : hB TA 19 (x + 26) (Ar 0) m := Z.2.1.2.2.2.2 0 (by omega)
  rcases Z.2.2.2.2.2.2.2.2.2.2.1 with ⟨rl, ml, ub⟩ | ⟨rl, ml, Y, hY, W⟩
  · exact pair_e Z (E := 1) (a103_1 (d := 14) hR hA rl) (by decide) (by decide) (fun m' => m245_1 (d := 16) (by omega) ml ub)
  · exact pair_q0 Z (a103_0 (d := 14) hR hA rl W) (fun m' => m245_0 (d := 16) (by omega) ml W.2.1.1)
theorem p17 (he : e.1 ≤ x) (Z : REL x m0 C S0 YB m R I H S Ar M l) : PAIR e x m0 C S0 YB 104 246 [] (ks1 1) m := by
  have hR : hB TR 1 x R m := Z.2.1.1
  have hA : hB TA 19 (x + 26) (Ar 0) m := Z.2.1.2.2.2.2 0 (by omega)
  rcases Z.2.2.2.2.2.2.2.2.2.2.1 with ⟨rl, ml, ub⟩ | ⟨rl, ml, Y, hY, W⟩
  · exact pair_e Z (E := 1) (a104_1 (d := 14) hR hA rl) (by decide) (by decide) (fun m' => m246_1 (d := 16) (by omega) ml)
  · exact pair_q0 Z (a104_0 (d := 14) hR hA rl W) (fun m' => m246_0 (d := 16) (by omega) ml W.2.1 W.2.2)
theorem p34 (he : e.1 ≤ x) (Z : REL x m0 C S0 YB m R I H S Ar M l) : PAIR e x m0 C S0 YB 121 266 [] (ks1 1) m := by
  have hR : hB TR 1 x R m := Z.2.1.1
  have hA : hB TA 19 (x + 26) (Ar 0) m := Z.2.1.2.2.2.2 0 (by omega)
  rcases Z.2.2.2.2.2.2.2.2.2.2.1 with ⟨rl, ml, ub⟩ | ⟨rl, ml, Y, hY, W⟩
  · exact pair_e Z (E := 1) (a121_1 (d := 14) hR hA rl) (by decide) (by decide) (fun m' => m266_1 (d := 16) (by omega) ml)
  · exact pair_q0 Z (a121_0 (d := 14) hR hA rl W) (fun m' => m266_0 (d := 16) (by omega) ml)
theorem p45 (he : e.1 ≤ x) (Z : REL x m0 C S0 YB m R I H S Ar M l) : PAIR e x m0 C S0 YB 132 282 [] (ks1 1) m := by
  have hR : hB TR 1 x R m := Z.2.1.1
  have hA : hB TA 19 (x + 26) (Ar 0) m := Z.2.1.2.2.2.2 0 (by omega)
  rcases Z.2.2.2.2.2.2.2.2.2.2.1 with ⟨rl, ml, ub⟩ | ⟨rl, ml, Y, hY, W⟩
  · exact pair_e Z (E := 1) (a132_1 (d := 14) hR hA rl) (by decide) (by decide) (fun m' => m282_1 (d := 16) (by omega) ml)
  · exact pair_q0 Z (a132_0 (d := 14) hR hA rl W) (fun m' => m282_0 (d := 16) (by omega) ml W.2.1 W.2.2)
theorem p22 (he : e.1 ≤ x) (Z : REL x m0 C S0 YB m R I H S Ar M l) {y1 : Int32} : PAIR e x m0 C S0 YB 109 254 [.int y1] (ks2 1 2) m := by
  have hR : hB TR 1 x R m := Z.2.1.1
  have hA : hB TA 19 (x + 26) (Ar 0) m := Z.2.1.2.2.2.2 0 (by omega)
  rcases Z.2.2.2.2.2.2.2.2.2.2.1 with ⟨rl, ml, ub⟩ | ⟨rl, ml, Y, hY, W⟩
  · exact pair_e Z (E := 1) (a109_1 (d := 14) hR hA rl) (by decide) (by decide) (fun m' => m254_1 (d := 16) (by omega) ml)
  · obtain ⟨n, n1, n2, -, n4⟩ := W.2.1.1.ex
    have wb := W.2.1.2.2.2.1
    cases hx : rngB 0 ((n : Int) - 1) y1 with
    | false => exact pair_e Z (E := 2) (a109_2 (d := 14) hR hA rl W n1 (by omega) hx) (by decide) (by decide) (fun m' => m254_2 (d := 16) (by omega) ml n1 (by omega) hx)
    | true =>
      obtain ⟨k, hk, rfl⟩ := rng_t hx
      exact pair_q0 Z (a109_0 (d := 14) hR hA rl W n1 (by omega) hk) (fun m' => m254_0 (d := 16) (by omega) ml n1 (by omega) hk)
theorem p23 (he : e.1 ≤ x) (Z : REL x m0 C S0 YB m R I H S Ar M l) {y1 : Int32} : PAIR e x m0 C S0 YB 110 255 [.int y1] (ks2 1 2) m := by
  have hR : hB TR 1 x R m := Z.2.1.1
  have hA : hB TA 19 (x + 26) (Ar 0) m := Z.2.1.2.2.2.2 0 (by omega)
  rcases Z.2.2.2.2.2.2.2.2.2.2.1 with ⟨rl, ml, ub⟩ | ⟨rl, ml, Y, hY, W⟩
  · exact pair_e Z (E := 1) (a110_1 (d := 14) hR hA rl) (by decide) (by decide) (fun m' => m255_1 (d := 16) (by omega) ml)
  · obtain ⟨n, n1, n2, -, n4⟩ := W.2.1.1.ex
    have wb := W.2.1.2.2.2.1
    cases hx : rngB 0 ((n : Int) - 1) y1 with
    | false => exact pair_e Z (E := 2) (a110_2 (d := 14) hR hA rl W n1 (by omega) hx) (by decide) (by decide) (fun m' => m255_2 (d := 16) (by omega) ml n1 (by omega) hx)
    | true =>
      obtain ⟨k, hk, rfl⟩ := rng_t hx
      exact pair_q0 Z (a110_0 (d := 14) hR hA rl W n1 (by omega) hk) (fun m' => m255_0 (d := 16) (by omega) ml n1 (by omega) hk)
theorem p24 (he : e.1 ≤ x) (Z : REL x m0 C S0 YB m R I H S Ar M l) {y1 : Int32} : PAIR e x m0 C S0 YB 111 256 [.int y1] (ks2 1 2) m := by
  have hR : hB TR 1 x R m := Z.2.1.1
  have hA : hB TA 19 (x + 26) (Ar 0) m := Z.2.1.2.2.2.2 0 (by omega)
  rcases Z.2.2.2.2.2.2.2.2.2.2.1 with ⟨rl, ml, ub⟩ | ⟨rl, ml, Y, hY, W⟩
  · exact pair_e Z (E := 1) (a111_1 (d := 14) hR hA rl) (by decide) (by decide) (fun m' => m256_1 (d := 16) (by omega) ml)
  · obtain ⟨n, n1, n2, -, n4⟩ := W.2.1.1.ex
    have wb := W.2.1.2.2.2.1
    cases hx : rngB 0 ((n : Int) - 1) y1 with
    | false => exact pair_e Z (E := 2) (a111_2 (d := 14) hR hA rl W n1 (by omega) hx) (by decide) (by decide) (fun m' => m256_2 (d := 16) (by omega) ml n1 (by omega) hx)
    | true =>
      obtain ⟨k, hk, rfl⟩ := rng_t hx
      exact pair_q0 Z (a111_0 (d := 14) hR hA rl W n1 (by omega) hk) (fun m' => m256_0 (d := 16) (by omega) ml n1 (by omega) hk W.2.2 (wb k (by rw [show nbS (M.1 2) = n from n2]; exact hk)))
theorem p25 (he : e.1 ≤ x) (Z : REL x m0 C S0 YB m R I H S Ar M l) {y1 : Int32} : PAIR e x m0 C S0 YB 112 257 [.int y1] (ks2 1 2) m := by
  have hR : hB TR 1 x R m := Z.2.1.1
  have hA : hB TA 19 (x + 26) (Ar 0) m := Z.2.1.2.2.2.2 0 (by omega)
  rcases Z.2.2.2.2.2.2.2.2.2.2.1 with ⟨rl, ml, ub⟩ | ⟨rl, ml, Y, hY, W⟩
  · exact pair_e Z (E := 1) (a112_1 (d := 14) hR hA rl) (by decide) (by decide) (fun m' => m257_1 (d := 16) (by omega) ml)
  · obtain ⟨n, n1, n2, -, n4⟩ := W.2.1.1.ex
    have wb := W.2.1.2.2.2.1
    cases hx : rngB 0 ((n : Int) - 1) y1 with
    | false => exact pair_e Z (E := 2) (a112_2 (d := 14) hR hA rl W n1 (by omega) hx) (by decide) (by decide) (fun m' => m257_2 (d := 16) (by omega) ml n1 (by omega) hx)
    | true =>
      obtain ⟨k, hk, rfl⟩ := rng_t hx
      exact pair_q0 Z (a112_0 (d := 14) hR hA rl W n1 (by omega) hk) (fun m' => m257_0 (d := 16) (by omega) ml n1 (by omega) hk W.2.2 (wb k (by rw [show nbS (M.1 2) = n from n2]; exact hk)))
theorem p26 (he : e.1 ≤ x) (Z : REL x m0 C S0 YB m R I H S Ar M l) {y1 : Int32} : PAIR e x m0 C S0 YB 113 258 [.int y1] (ks2 1 2) m := by
  have hR : hB TR 1 x R m := Z.2.1.1
  have hA : hB TA 19 (x + 26) (Ar 0) m := Z.2.1.2.2.2.2 0 (by omega)
  rcases Z.2.2.2.2.2.2.2.2.2.2.1 with ⟨rl, ml, ub⟩ | ⟨rl, ml, Y, hY, W⟩
  · exact pair_e Z (E := 1) (a113_1 (d := 14) hR hA rl) (by decide) (by decide) (fun m' => m258_1 (d := 16) (by omega) ml)
  · obtain ⟨n, n1, n2, -, n4⟩ := W.2.1.1.ex
    have wb := W.2.1.2.2.2.1
    cases hx : rngB 0 ((n : Int) - 1) y1 with
    | false => exact pair_e Z (E := 2) (a113_2 (d := 14) hR hA rl W n1 (by omega) hx) (by decide) (by decide) (fun m' => m258_2 (d := 16) (by omega) ml n1 (by omega) hx)
    | true =>
      obtain ⟨k, hk, rfl⟩ := rng_t hx
      exact pair_q0 Z (a113_0 (d := 14) hR hA rl W n1 (by omega) hk) (fun m' => m258_0 (d := 16) (by omega) ml n1 (by omega) hk)
theorem p27 (he : e.1 ≤ x) (Z : REL x m0 C S0 YB m R I H S Ar M l) {y1 : Int32} : PAIR e x m0 C S0 YB 114 259 [.int y1] (ks2 1 2) m := by
  have hR : hB TR 1 x R m := Z.2.1.1
  have hA : hB TA 19 (x + 26) (Ar 0) m := Z.2.1.2.2.2.2 0 (by omega)
  rcases Z.2.2.2.2.2.2.2.2.2.2.1 with ⟨rl, ml, ub⟩ | ⟨rl, ml, Y, hY, W⟩
  · exact pair_e Z (E := 1) (a114_1 (d := 14) hR hA rl) (by decide) (by decide) (fun m' => m259_1 (d := 16) (by omega) ml)
  · obtain ⟨n, n1, n2, -, n4⟩ := W.2.1.1.ex
    have wb := W.2.1.2.2.2.1
    cases hx : rngB 0 ((n : Int) - 1) y1 with
    | false => exact pair_e Z (E := 2) (a114_2 (d := 14) hR hA rl W n1 (by omega) hx) (by decide) (by decide) (fun m' => m259_2 (d := 16) (by omega) ml n1 (by omega) hx)
    | true =>
      obtain ⟨k, hk, rfl⟩ := rng_t hx
      exact pair_q0 Z (a114_0 (d := 14) hR hA rl W n1 (by omega) hk) (fun m' => m259_0 (d := 16) (by omega) ml n1 (by omega) hk)
theorem p28 (he : e.1 ≤ x) (Z : REL x m0 C S0 YB m R I H S Ar M l) {y1 : Int32} : PAIR e x m0 C S0 YB 115 260 [.int y1] (ks2 1 2) m := by
  have hR : hB TR 1 x R m := Z.2.1.1
  have hA : hB TA 19 (x + 26) (Ar 0) m := Z.2.1.2.2.2.2 0 (by omega)
  rcases Z.2.2.2.2.2.2.2.2.2.2.1 with ⟨rl, ml, ub⟩ | ⟨rl, ml, Y, hY, W⟩
  · exact pair_e Z (E := 1) (a115_1 (d := 14) hR hA rl) (by decide) (by decide) (fun m' => m260_1 (d := 16) (by omega) ml)
  · obtain ⟨n, n1, n2, -, n4⟩ := W.2.1.1.ex
    have wb := W.2.1.2.2.2.1
    cases hx : rngB 0 ((n : Int) - 1) y1 with
    | false => exact pair_e Z (E := 2) (a115_2 (d := 14) hR hA rl W n1 (by omega) hx) (by decide) (by decide) (fun m' => m260_2 (d := 16) (by omega) ml n1 (by omega) hx)
    | true =>
      obtain ⟨k, hk, rfl⟩ := rng_t hx
      exact pair_q0 Z (a115_0 (d := 14) hR hA rl W n1 (by omega) hk) (fun m' => m260_0 (d := 16) (by omega) ml n1 (by omega) hk)
theorem p29 (he : e.1 ≤ x) (Z : REL x m0 C S0 YB m R I H S Ar M l) {y1 : Int32} : PAIR e x m0 C S0 YB 116 261 [.int y1] (ks2 1 2) m := by
  have hR : hB TR 1 x R m := Z.2.1.1
  have hA : hB TA 19 (x + 26) (Ar 0) m := Z.2.1.2.2.2.2 0 (by omega)
  rcases Z.2.2.2.2.2.2.2.2.2.2.1 with ⟨rl, ml, ub⟩ | ⟨rl, ml, Y, hY, W⟩
  · exact pair_e Z (E := 1) (a116_1 (d := 14) hR hA rl) (by decide) (by decide) (fun m' => m261_1 (d := 16) (by omega) ml)
  · obtain ⟨n, n1, n2, -, n4⟩ := W.2.1.1.ex
    have wb := W.2.1.2.2.2.1
    cases hx : rngB 0 ((n : Int) - 1) y1 with
    | false => exact pair_e Z (E := 2) (a116_2 (d := 14) hR hA rl W n1 (by omega) hx) (by decide) (by decide) (fun m' => m261_2 (d := 16) (by omega) ml n1 (by omega) hx)
    | true =>
      obtain ⟨k, hk, rfl⟩ := rng_t hx
      exact pair_q0 Z (a116_0 (d := 14) hR hA rl W n1 (by omega) hk) (fun m' => m261_0 (d := 16) (by omega) ml n1 (by omega) hk)
theorem p30 (he : e.1 ≤ x) (Z : REL x m0 C S0 YB m R I H S Ar M l) {y1 : Int32} : PAIR e x m0 C S0 YB 117 262 [.int y1] (ks2 1 2) m := by
  have hR : hB TR 1 x R m := Z.2.1.1
  have hA : hB TA 19 (x + 26) (Ar 0) m := Z.2.1.2.2.2.2 0 (by omega)
  rcases Z.2.2.2.2.2.2.2.2.2.2.1 with ⟨rl, ml, ub⟩ | ⟨rl, ml, Y, hY, W⟩
  · exact pair_e Z (E := 1) (a117_1 (d := 14) hR hA rl) (by decide) (by decide) (fun m' => m262_1 (d := 16) (by omega) ml)
  · obtain ⟨n, n1, n2, -, n4⟩ := W.2.1.1.ex
    have wb := W.2.1.2.2.2.1
    cases hx : rngB 0 ((n : Int) - 1) y1 with
    | false => exact pair_e Z (E := 2) (a117_2 (d := 14) hR hA rl W n1 (by omega) hx) (by decide) (by decide) (fun m' => m262_2 (d := 16) (by omega) ml n1 (by omega) hx)
    | true =>
      obtain ⟨k, hk, rfl⟩ := rng_t hx
      exact pair_q0 Z (a117_0 (d := 14) hR hA rl W n1 (by omega) hk) (fun m' => m262_0 (d := 16) (by omega) ml n1 (by omega) hk)
theorem p31 (he : e.1 ≤ x) (Z : REL x m0 C S0 YB m R I H S Ar M l) {y1 : Int32} : PAIR e x m0 C S0 YB 118 263 [.int y1] (ks2 1 2) m := by
  have hR : hB TR 1 x R m := Z.2.1.1
  have hA : hB TA 19 (x + 26) (Ar 0) m := Z.2.1.2.2.2.2 0 (by omega)
  rcases Z.2.2.2.2.2.2.2.2.2.2.1 with ⟨rl, ml, ub⟩ | ⟨rl, ml, Y, hY, W⟩
  · exact pair_e Z (E := 1) (a118_1 (d := 14) hR hA rl) (by decide) (by decide) (fun m' => m263_1 (d := 16) (by omega) ml)
  · obtain ⟨n, n1, n2, -, n4⟩ := W.2.1.1.ex
    have wb := W.2.1.2.2.2.1
    cases hx : rngB 0 ((n : Int) - 1) y1 with
    | false => exact pair_e Z (E := 2) (a118_2 (d := 14) hR hA rl W n1 (by omega) hx) (by decide) (by decide) (fun m' => m263_2 (d := 16) (by omega) ml n1 (by omega) hx)
    | true =>
      obtain ⟨k, hk, rfl⟩ := rng_t hx
      exact pair_q0 Z (a118_0 (d := 14) hR hA rl W n1 (by omega) hk) (fun m' => m263_0 (d := 16) (by omega) ml n1 (by omega) hk (wb k (by rw [show nbS (M.1 2) = n from n2]; exact hk)).1)
theorem p32 (he : e.1 ≤ x) (Z : REL x m0 C S0 YB m R I H S Ar M l) {y1 : Int32} : PAIR e x m0 C S0 YB 119 264 [.int y1] (ks2 1 2) m := by
  have hR : hB TR 1 x R m := Z.2.1.1
  have hA : hB TA 19 (x + 26) (Ar 0) m := Z.2.1.2.2.2.2 0 (by omega)
  rcases Z.2.2.2.2.2.2.2.2.2.2.1 with ⟨rl, ml, ub⟩ | ⟨rl, ml, Y, hY, W⟩
  · exact pair_e Z (E := 1) (a119_1 (d := 14) hR hA rl) (by decide) (by decide) (fun m' => m264_1 (d := 16) (by omega) ml)
  · obtain ⟨n, n1, n2, -, n4⟩ := W.2.1.1.ex
    have wb := W.2.1.2.2.2.1
    cases hx : rngB 0 ((n : Int) - 1) y1 with
    | false => exact pair_e Z (E := 2) (a119_2 (d := 14) hR hA rl W n1 (by omega) hx) (by decide) (by decide) (fun m' => m264_2 (d := 16) (by omega) ml n1 (by omega) hx)
    | true =>
      obtain ⟨k, hk, rfl⟩ := rng_t hx
      exact pair_q0 Z (a119_0 (d := 14) hR hA rl W n1 (by omega) hk) (fun m' => m264_0 (d := 16) (by omega) ml n1 (by omega) hk)
theorem p33 (he : e.1 ≤ x) (Z : REL x m0 C S0 YB m R I H S Ar M l) {y1 : Int32} : PAIR e x m0 C S0 YB 120 265 [.int y1] (ks2 1 2) m := by
  have hR : hB TR 1 x R m := Z.2.1.1
  have hA : hB TA 19 (x + 26) (Ar 0) m := Z.2.1.2.2.2.2 0 (by omega)
  rcases Z.2.2.2.2.2.2.2.2.2.2.1 with ⟨rl, ml, ub⟩ | ⟨rl, ml, Y, hY, W⟩
  · exact pair_e Z (E := 1) (a120_1 (d := 14) hR hA rl) (by decide) (by decide) (fun m' => m265_1 (d := 16) (by omega) ml)
  · obtain ⟨n, n1, n2, -, n4⟩ := W.2.1.1.ex
    have wb := W.2.1.2.2.2.1
    cases hx : rngB 0 ((n : Int) - 1) y1 with
    | false => exact pair_e Z (E := 2) (a120_2 (d := 14) hR hA rl W n1 (by omega) hx) (by decide) (by decide) (fun m' => m265_2 (d := 16) (by omega) ml n1 (by omega) hx)
    | true =>
      obtain ⟨k, hk, rfl⟩ := rng_t hx
      exact pair_q0 Z (a120_0 (d := 14) hR hA rl W n1 (by omega) hk) (fun m' => m265_0 (d := 16) (by omega) ml n1 (by omega) hk (wb k (by rw [show nbS (M.1 2) = n from n2]; exact hk)).1)
theorem p40 (he : e.1 ≤ x) (Z : REL x m0 C S0 YB m R I H S Ar M l) {y1 : Int32} : PAIR e x m0 C S0 YB 127 274 [.int y1] (ks2 1 2) m := by
  have hR : hB TR 1 x R m := Z.2.1.1
  have hA : hB TA 19 (x + 26) (Ar 0) m := Z.2.1.2.2.2.2 0 (by omega)
  rcases Z.2.2.2.2.2.2.2.2.2.2.1 with ⟨rl, ml, ub⟩ | ⟨rl, ml, Y, hY, W⟩
  · exact pair_e Z (E := 1) (a127_1 (d := 14) hR hA rl) (by decide) (by decide) (fun m' => m274_1 (d := 16) (by omega) ml)
  · obtain ⟨n, n1, n2, -, n4⟩ := W.2.1.1.ex
    have wb := W.2.1.2.2.2.1
    cases hx : rngB 0 ((n : Int) - 1) y1 with
    | false => exact pair_e Z (E := 2) (a127_2 (d := 14) hR hA rl W n1 (by omega) hx) (by decide) (by decide) (fun m' => m274_2 (d := 16) (by omega) ml n1 (by omega) hx)
    | true =>
      obtain ⟨k, hk, rfl⟩ := rng_t hx
      exact pair_q0 Z (a127_0 (d := 14) hR hA rl W n1 (by omega) hk) (fun m' => m274_0 (d := 16) (by omega) ml n1 (by omega) hk)
theorem p41 (he : e.1 ≤ x) (Z : REL x m0 C S0 YB m R I H S Ar M l) {y1 : Int32} : PAIR e x m0 C S0 YB 128 275 [.int y1] (ks2 1 2) m := by
  have hR : hB TR 1 x R m := Z.2.1.1
  have hA : hB TA 19 (x + 26) (Ar 0) m := Z.2.1.2.2.2.2 0 (by omega)
  rcases Z.2.2.2.2.2.2.2.2.2.2.1 with ⟨rl, ml, ub⟩ | ⟨rl, ml, Y, hY, W⟩
  · exact pair_e Z (E := 1) (a128_1 (d := 14) hR hA rl) (by decide) (by decide) (fun m' => m275_1 (d := 16) (by omega) ml)
  · obtain ⟨n, n1, n2, -, n4⟩ := W.2.1.1.ex
    have wb := W.2.1.2.2.2.1
    cases hx : rngB 0 ((n : Int) - 1) y1 with
    | false => exact pair_e Z (E := 2) (a128_2 (d := 14) hR hA rl W n1 (by omega) hx) (by decide) (by decide) (fun m' => m275_2 (d := 16) (by omega) ml n1 (by omega) hx)
    | true =>
      obtain ⟨k, hk, rfl⟩ := rng_t hx
      exact pair_q0 Z (a128_0 (d := 14) hR hA rl W n1 (by omega) hk) (fun m' => m275_0 (d := 16) (by omega) ml n1 (by omega) hk)
theorem p19 (he : e.1 ≤ x) (Z : REL x m0 C S0 YB m R I H S Ar M l) {y1 : Int32} : PAIR e x m0 C S0 YB 106 250 [.int y1] (ks2 1 2) m := by
  have hR : hB TR 1 x R m := Z.2.1.1
  have hA : hB TA 19 (x + 26) (Ar 0) m := Z.2.1.2.2.2.2 0 (by omega)
  rcases Z.2.2.2.2.2.2.2.2.2.2.1 with ⟨rl, ml, ub⟩ | ⟨rl, ml, Y, hY, W⟩
  · exact pair_e Z (E := 1) (a106_1 (d := 14) hR hA rl) (by decide) (by decide) (fun m' => m250_1 (d := 16) (by omega) ml)
  · obtain ⟨n, n1, n2, -, n4⟩ := W.2.2.2.2.1.ex
    have wb := W.2.1.2.2.2.1
    cases hx : rngB 0 ((n : Int) - 1) y1 with
    | false => exact pair_e Z (E := 2) (a106_2 (d := 14) hR hA rl W n1 (by omega) hx) (by decide) (by decide) (fun m' => m250_2 (d := 16) (by omega) ml n1 (by omega) hx)
    | true =>
      obtain ⟨k, hk, rfl⟩ := rng_t hx
      exact pair_q0 Z (a106_0 (d := 14) hR hA rl W n1 (by omega) hk) (fun m' => m250_0 (d := 16) (by omega) ml n1 (by omega) hk)
theorem p20 (he : e.1 ≤ x) (Z : REL x m0 C S0 YB m R I H S Ar M l) {y1 : Int32} : PAIR e x m0 C S0 YB 107 251 [.int y1] (ks2 1 2) m := by
  have hR : hB TR 1 x R m := Z.2.1.1
  have hA : hB TA 19 (x + 26) (Ar 0) m := Z.2.1.2.2.2.2 0 (by omega)
  rcases Z.2.2.2.2.2.2.2.2.2.2.1 with ⟨rl, ml, ub⟩ | ⟨rl, ml, Y, hY, W⟩
  · exact pair_e Z (E := 1) (a107_1 (d := 14) hR hA rl) (by decide) (by decide) (fun m' => m251_1 (d := 16) (by omega) ml)
  · obtain ⟨n, n1, n2, -, n4⟩ := W.2.2.2.2.1.ex
    have wb := W.2.1.2.2.2.1
    cases hx : rngB 0 ((n : Int) - 1) y1 with
    | false => exact pair_e Z (E := 2) (a107_2 (d := 14) hR hA rl W n1 (by omega) hx) (by decide) (by decide) (fun m' => m251_2 (d := 16) (by omega) ml n1 (by omega) hx)
    | true =>
      obtain ⟨k, hk, rfl⟩ := rng_t hx
      exact pair_q0 Z (a107_0 (d := 14) hR hA rl W n1 (by omega) hk) (fun m' => m251_0 (d := 16) (by omega) ml n1 (by omega) hk)
theorem p21 (he : e.1 ≤ x) (Z : REL x m0 C S0 YB m R I H S Ar M l) {y1 : Int32} : PAIR e x m0 C S0 YB 108 252 [.int y1] (ks2 1 2) m := by
  have hR : hB TR 1 x R m := Z.2.1.1
  have hA : hB TA 19 (x + 26) (Ar 0) m := Z.2.1.2.2.2.2 0 (by omega)
  rcases Z.2.2.2.2.2.2.2.2.2.2.1 with ⟨rl, ml, ub⟩ | ⟨rl, ml, Y, hY, W⟩
  · exact pair_e Z (E := 1) (a108_1 (d := 14) hR hA rl) (by decide) (by decide) (fun m' => m252_1 (d := 16) (by omega) ml)
  · obtain ⟨n, n1, n2, -, n4⟩ := W.2.2.2.2.1.ex
    have wb := W.2.1.2.2.2.1
    cases hx : rngB 0 ((n : Int) - 1) y1 with
    | false => exact pair_e Z (E := 2) (a108_2 (d := 14) hR hA rl W n1 (by omega) hx) (by decide) (by decide) (fun m' => m252_2 (d := 16) (by omega) ml n1 (by omega) hx)
    | true =>
      obtain ⟨k, hk, rfl⟩ := rng_t hx
      exact pair_q0 Z (a108_0 (d := 14) hR hA rl W n1 (by omega) hk) (fun m' => m252_0 (d := 16) (by omega) ml n1 (by omega) hk)
theorem p18 (he : e.1 ≤ x) (Z : REL x m0 C S0 YB m R I H S Ar M l) {y1 y2 : Int32} : PAIR e x m0 C S0 YB 105 249 [.int y1, .int y2] (ks2 1 2) m := by
  have hR : hB TR 1 x R m := Z.2.1.1
  have hA : hB TA 19 (x + 26) (Ar 0) m := Z.2.1.2.2.2.2 0 (by omega)
  rcases Z.2.2.2.2.2.2.2.2.2.2.1 with ⟨rl, ml, ub⟩ | ⟨rl, ml, Y, hY, W⟩
  · exact pair_e Z (E := 1) (a105_1 (d := 14) hR hA rl) (by decide) (by decide) (fun m' => m249_1 (d := 16) (by omega) ml)
  · obtain ⟨n, n1, n2, -, n4⟩ := W.2.2.2.2.1.ex
    have wb := W.2.1.2.2.2.1
    cases hx : rngB 0 ((n : Int) - 1) y1 with
    | false => exact pair_e Z (E := 2) (a105_2 (d := 14) hR hA rl W n1 (by omega) hx) (by decide) (by decide) (fun m' => m249_2 (d := 16) (by omega) ml n1 (by omega) hx)
    | true =>
      obtain ⟨k, hk, rfl⟩ := rng_t hx
      exact pair_q0 Z (a105_0 (d := 14) hR hA rl W n1 (by omega) hk) (fun m' => m249_0 (d := 16) (by omega) ml n1 (by omega) hk)
theorem p36 (he : e.1 ≤ x) (Z : REL x m0 C S0 YB m R I H S Ar M l) {y1 y2 : Int32} : PAIR e x m0 C S0 YB 123 269 [.int y1, .int y2] (ks2 1 2) m := by
  have hR : hB TR 1 x R m := Z.2.1.1
  have hA : hB TA 19 (x + 26) (Ar 0) m := Z.2.1.2.2.2.2 0 (by omega)
  rcases Z.2.2.2.2.2.2.2.2.2.2.1 with ⟨rl, ml, ub⟩ | ⟨rl, ml, Y, hY, W⟩
  · exact pair_e Z (E := 1) (a123_1 (d := 14) hR hA rl) (by decide) (by decide) (fun m' => m269_1 (d := 16) (by omega) ml)
  · obtain ⟨n, n1, n2, -, n4⟩ := W.2.2.2.2.2.1.ex
    have wb := W.2.1.2.2.2.1
    cases hx : rngB 0 ((n : Int) - 1) y1 with
    | false => exact pair_e Z (E := 2) (a123_2 (d := 14) hR hA rl W n1 (by omega) hx) (by decide) (by decide) (fun m' => m269_2 (d := 16) (by omega) ml n1 (by omega) hx)
    | true =>
      obtain ⟨k, hk, rfl⟩ := rng_t hx
      exact pair_q0 Z (a123_0 (d := 14) hR hA rl W n1 (by omega) hk) (fun m' => m269_0 (d := 16) (by omega) ml n1 (by omega) hk)
theorem p37 (he : e.1 ≤ x) (Z : REL x m0 C S0 YB m R I H S Ar M l) {y1 : Int32} : PAIR e x m0 C S0 YB 124 270 [.int y1] (ks2 1 2) m := by
  have hR : hB TR 1 x R m := Z.2.1.1
  have hA : hB TA 19 (x + 26) (Ar 0) m := Z.2.1.2.2.2.2 0 (by omega)
  rcases Z.2.2.2.2.2.2.2.2.2.2.1 with ⟨rl, ml, ub⟩ | ⟨rl, ml, Y, hY, W⟩
  · exact pair_e Z (E := 1) (a124_1 (d := 14) hR hA rl) (by decide) (by decide) (fun m' => m270_1 (d := 16) (by omega) ml)
  · obtain ⟨n, n1, n2, -, n4⟩ := W.2.2.2.2.2.1.ex
    have wb := W.2.1.2.2.2.1
    cases hx : rngB 0 ((n : Int) - 1) y1 with
    | false => exact pair_e Z (E := 2) (a124_2 (d := 14) hR hA rl W n1 (by omega) hx) (by decide) (by decide) (fun m' => m270_2 (d := 16) (by omega) ml n1 (by omega) hx)
    | true =>
      obtain ⟨k, hk, rfl⟩ := rng_t hx
      exact pair_q0 Z (a124_0 (d := 14) hR hA rl W n1 (by omega) hk) (fun m' => m270_0 (d := 16) (by omega) ml n1 (by omega) hk)
theorem p38 (he : e.1 ≤ x) (Z : REL x m0 C S0 YB m R I H S Ar M l) {y1 : Int32} : PAIR e x m0 C S0 YB 125 271 [.int y1] (ks2 1 2) m := by
  have hR : hB TR 1 x R m := Z.2.1.1
  have hA : hB TA 19 (x + 26) (Ar 0) m := Z.2.1.2.2.2.2 0 (by omega)
  rcases Z.2.2.2.2.2.2.2.2.2.2.1 with ⟨rl, ml, ub⟩ | ⟨rl, ml, Y, hY, W⟩
  · exact pair_e Z (E := 1) (a125_1 (d := 14) hR hA rl) (by decide) (by decide) (fun m' => m271_1 (d := 16) (by omega) ml)
  · obtain ⟨n, n1, n2, -, n4⟩ := W.2.2.2.2.2.1.ex
    have wb := W.2.1.2.2.2.1
    cases hx : rngB 0 ((n : Int) - 1) y1 with
    | false => exact pair_e Z (E := 2) (a125_2 (d := 14) hR hA rl W n1 (by omega) hx) (by decide) (by decide) (fun m' => m271_2 (d := 16) (by omega) ml n1 (by omega) hx)
    | true =>
      obtain ⟨k, hk, rfl⟩ := rng_t hx
      exact pair_q0 Z (a125_0 (d := 14) hR hA rl W n1 (by omega) hk) (fun m' => m271_0 (d := 16) (by omega) ml n1 (by omega) hk W.2.1.1)
theorem p35 (he : e.1 ≤ x) (Z : REL x m0 C S0 YB m R I H S Ar M l) {y1 : Int32} : PAIR e x m0 C S0 YB 122 267 [.int y1] (ks2 1 2) m := by
  have hR : hB TR 1 x R m := Z.2.1.1
  have hA : hB TA 19 (x + 26) (Ar 0) m := Z.2.1.2.2.2.2 0 (by omega)
  rcases Z.2.2.2.2.2.2.2.2.2.2.1 with ⟨rl, ml, ub⟩ | ⟨rl, ml, Y, hY, W⟩
  · exact pair_e Z (E := 1) (a122_1 (d := 17) hR hA rl) (by decide) (by decide) (fun m' => m267_1 (d := 17) (by omega) ml)
  · obtain ⟨n, n1, n2, -, n4⟩ := W.2.1.2.1.ex
    have wb := W.2.1.2.2.2.1
    cases hx : rngB 0 ((n : Int) - 1) y1 with
    | false => exact pair_e Z (E := 2) (a122_2 (d := 17) hR hA rl W n1 (by omega) hx) (by decide) (by decide) (fun m' => m267_2 (d := 17) (by omega) ml n1 (by omega) hx)
    | true =>
      obtain ⟨k, hk, rfl⟩ := rng_t hx
      exact pair_q0 Z (a122_0 (d := 17) hR hA rl W n1 (by omega) hk) (fun m' => m267_0 (d := 17) (by omega) ml n1 (by omega) hk)
theorem p14 (he : e.1 ≤ x) (Z : REL x m0 C S0 YB m R I H S Ar M l) {y1 y2 : Int32} : PAIR e x m0 C S0 YB 101 241 [.int y1, .int y2] (ks2 1 2) m := by
  have hR : hB TR 1 x R m := Z.2.1.1
  have hA : hB TA 19 (x + 26) (Ar 0) m := Z.2.1.2.2.2.2 0 (by omega)
  rcases Z.2.2.2.2.2.2.2.2.2.2.1 with ⟨rl, ml, ub⟩ | ⟨rl, ml, Y, hY, W⟩
  · exact pair_e Z (E := 1) (a101_1 (d := 17) hR hA rl) (by decide) (by decide) (fun m' => m241_1 (d := 17) (by omega) ml)
  · cases hx : (rngB 0 ((nN (M.1 1 0) : Int) - 1) y1 && rngB 0 ((nN (M.1 1 1) : Int) - 1) y2) with
    | false => exact pair_e Z (E := 2) (a101_2 (d := 17) hR hA rl W hx) (by decide) (by decide) (fun m' => m241_2 (d := 17) (by omega) ml W.2.2 hx)
    | true =>
      obtain ⟨x1, x2⟩ := (Bool.and_eq_true _ _).mp hx
      obtain ⟨i, hi, rfl⟩ := rng_t x1
      obtain ⟨j, hj, rfl⟩ := rng_t x2
      exact pair_q0 Z (a101_0 (d := 17) hR hA rl W hi hj) (fun m' => m241_0 (d := 17) (by omega) ml W.2.2 W.2.1.1 hi hj)
theorem p39 (he : e.1 ≤ x) (Z : REL x m0 C S0 YB m R I H S Ar M l) {y1 y2 : Int32} : PAIR e x m0 C S0 YB 126 273 [.int y1, .int y2] (ks2 1 2) m := by
  have hR : hB TR 1 x R m := Z.2.1.1
  have hA : hB TA 19 (x + 26) (Ar 0) m := Z.2.1.2.2.2.2 0 (by omega)
  rcases Z.2.2.2.2.2.2.2.2.2.2.1 with ⟨rl, ml, ub⟩ | ⟨rl, ml, Y, hY, W⟩
  · exact pair_e Z (E := 1) (a126_1 (d := 14) hR hA rl) (by decide) (by decide) (fun m' => m273_1 (d := 15) (by omega) ml)
  · obtain ⟨n, n1, n2, -, n4⟩ := W.2.1.1.ex
    obtain ⟨r, r1, r2, -, r4⟩ := W.2.2.2.2.2.1.ex
    have wb := W.2.1.2.2.2.1
    cases hx : (rngB 0 ((r : Int) - 1) y1 && rngB 0 ((n : Int) - 1) y2) with
    | false => exact pair_e Z (E := 2) (a126_2 (d := 14) hR hA rl W r1 (by omega) n1 (by omega) hx) (by decide) (by decide) (fun m' => m273_2 (d := 15) (by omega) ml r1 (by omega) n1 (by omega) hx)
    | true =>
      obtain ⟨x1, x2⟩ := (Bool.and_eq_true _ _).mp hx
      obtain ⟨j, hj, rfl⟩ := rng_t x1
      obtain ⟨k, hk, rfl⟩ := rng_t x2
      exact pair_q0 Z (a126_0 (d := 14) hR hA rl W r1 (by omega) n1 (by omega) hj hk) (fun m' => m273_0 (d := 15) (by omega) ml r1 (by omega) n1 (by omega) hj hk (wb k (by rw [show nbS (M.1 2) = n from n2]; exact hk)).1 (wb k (by rw [show nbS (M.1 2) = n from n2]; exact hk)).2.2.2.2.2.2.1)
end
end

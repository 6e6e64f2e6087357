noncomputable section
/-! ===== the blocks: archive, reference, parser with input, root, history, slots (printed by wip/whole/blocks.py) ===== -/
def TAc : Nat → Nat
  | 0 => 3
  | 1 => 8
  | 6 => 7
  | _ => 0
def TAr0 : Nat → Nat
  | 0 => 2
  | 1 => 7
  | 2 => 10
  | 3 => 11
  | 4 => 12
  | 5 => 13
  | 6 => 14
  | 7 => 15
  | 8 => 16
  | 9 => 17
  | 10 => 18
  | 11 => 19
  | _ => 0
def TAr1 : Nat → Nat
  | 0 => 3
  | 1 => 4
  | 2 => 5
  | 3 => 6
  | _ => 0
def TAr6 : Nat → Nat
  | 0 => 8
  | 1 => 9
  | _ => 0
def TAr : Nat → Nat → Nat
  | 0 => TAr0
  | 1 => TAr1
  | 6 => TAr6
  | _ => fun _ => 0
def TAk : Nat → Nat
  | 2 => 1
  | 5 => 4
  | 7 => 1
  | _ => 0
def TAn : Nat → Nat
  | 2 => 8
  | 3 => 8
  | 4 => 8
  | 5 => 8
  | 7 => 6
  | 8 => 6
  | 9 => 24
  | 10 => 24
  | 11 => 24
  | 12 => 24
  | 13 => 24
  | 14 => 24
  | 15 => 24
  | 16 => 24
  | 17 => 72
  | 18 => 24
  | _ => 0
def TA : bTab := (TAc, TAr, TAk, TAn)
section
variable {e : dEnv} {a : Nat} {X : bX} {m : dMem}
theorem A_c0 : isC (ov TA 19 a X m) a 2 = true := ov_isC (i := 0) (by decide) rfl
theorem A_r0_0 : gR (ov TA 19 a X m) a 2 0 = some (a + 1) := ov_gR (i := 0) (by decide) rfl rfl
theorem A_r0_1 : gR (ov TA 19 a X m) a 2 1 = some (a + 6) := ov_gR (i := 0) (by decide) rfl rfl
theorem A_r0_2 : gR (ov TA 19 a X m) a 2 2 = some (a + 9) := ov_gR (i := 0) (by decide) rfl rfl
theorem A_r0_3 : gR (ov TA 19 a X m) a 2 3 = some (a + 10) := ov_gR (i := 0) (by decide) rfl rfl
theorem A_r0_4 : gR (ov TA 19 a X m) a 2 4 = some (a + 11) := ov_gR (i := 0) (by decide) rfl rfl
theorem A_r0_5 : gR (ov TA 19 a X m) a 2 5 = some (a + 12) := ov_gR (i := 0) (by decide) rfl rfl
theorem A_r0_6 : gR (ov TA 19 a X m) a 2 6 = some (a + 13) := ov_gR (i := 0) (by decide) rfl rfl
theorem A_r0_7 : gR (ov TA 19 a X m) a 2 7 = some (a + 14) := ov_gR (i := 0) (by decide) rfl rfl
theorem A_r0_8 : gR (ov TA 19 a X m) a 2 8 = some (a + 15) := ov_gR (i := 0) (by decide) rfl rfl
theorem A_r0_9 : gR (ov TA 19 a X m) a 2 9 = some (a + 16) := ov_gR (i := 0) (by decide) rfl rfl
theorem A_r0_10 : gR (ov TA 19 a X m) a 2 10 = some (a + 17) := ov_gR (i := 0) (by decide) rfl rfl
theorem A_r0_11 : gR (ov TA 19 a X m) a 2 11 = some (a + 18) := ov_gR (i := 0) (by decide) rfl rfl
theorem A_g0_12 : gI (ov TA 19 a X m) a 2 12 = some (X.1 0 12) := ov_gI (i := 0) (by decide) rfl rfl
theorem A_p0_12 {x : Int32} (he : e.1 ≤ a) : pI e (ov TA 19 a X m) a 2 12 x = some (ov TA 19 a (uA X 0 (wr (X.1 0) 12 x)) m) := ov_pI (i := 0) (by decide) he rfl rfl
theorem A_g0_13 : gI (ov TA 19 a X m) a 2 13 = some (X.1 0 13) := ov_gI (i := 0) (by decide) rfl rfl
theorem A_p0_13 {x : Int32} (he : e.1 ≤ a) : pI e (ov TA 19 a X m) a 2 13 x = some (ov TA 19 a (uA X 0 (wr (X.1 0) 13 x)) m) := ov_pI (i := 0) (by decide) he rfl rfl
theorem A_g0_14 : gI (ov TA 19 a X m) a 2 14 = some (X.1 0 14) := ov_gI (i := 0) (by decide) rfl rfl
theorem A_p0_14 {x : Int32} (he : e.1 ≤ a) : pI e (ov TA 19 a X m) a 2 14 x = some (ov TA 19 a (uA X 0 (wr (X.1 0) 14 x)) m) := ov_pI (i := 0) (by decide) he rfl rfl
theorem A_g0_15 : gI (ov TA 19 a X m) a 2 15 = some (X.1 0 15) := ov_gI (i := 0) (by decide) rfl rfl
theorem A_p0_15 {x : Int32} (he : e.1 ≤ a) : pI e (ov TA 19 a X m) a 2 15 x = some (ov TA 19 a (uA X 0 (wr (X.1 0) 15 x)) m) := ov_pI (i := 0) (by decide) he rfl rfl
theorem A_g0_16 : gI (ov TA 19 a X m) a 2 16 = some (X.1 0 16) := ov_gI (i := 0) (by decide) rfl rfl
theorem A_p0_16 {x : Int32} (he : e.1 ≤ a) : pI e (ov TA 19 a X m) a 2 16 x = some (ov TA 19 a (uA X 0 (wr (X.1 0) 16 x)) m) := ov_pI (i := 0) (by decide) he rfl rfl
theorem A_c1 : isC (ov TA 19 a X m) (a + 1) 7 = true := ov_isC (i := 1) (by decide) rfl
theorem A_r1_0 : gR (ov TA 19 a X m) (a + 1) 7 0 = some (a + 2) := ov_gR (i := 1) (by decide) rfl rfl
theorem A_r1_1 : gR (ov TA 19 a X m) (a + 1) 7 1 = some (a + 3) := ov_gR (i := 1) (by decide) rfl rfl
theorem A_r1_2 : gR (ov TA 19 a X m) (a + 1) 7 2 = some (a + 4) := ov_gR (i := 1) (by decide) rfl rfl
theorem A_r1_3 : gR (ov TA 19 a X m) (a + 1) 7 3 = some (a + 5) := ov_gR (i := 1) (by decide) rfl rfl
theorem A_g1_4 : gI (ov TA 19 a X m) (a + 1) 7 4 = some (X.1 1 4) := ov_gI (i := 1) (by decide) rfl rfl
theorem A_p1_4 {x : Int32} (he : e.1 ≤ a) : pI e (ov TA 19 a X m) (a + 1) 7 4 x = some (ov TA 19 a (uA X 1 (wr (X.1 1) 4 x)) m) := ov_pI (i := 1) (by decide) he rfl rfl
theorem A_a2 {j : Nat} (hj : j < 8) : aL (ov TA 19 a X m) 1 (a + 2) (Int32.ofNat j) = some (X.2 2 j) := ov_aL (i := 2) (by decide) rfl rfl rfl (by decide) hj
theorem A_s2 {j : Nat} {x : Int64} (he : e.1 ≤ a) (hj : j < 8) : sL e (ov TA 19 a X m) 1 (a + 2) (Int32.ofNat j) x = some (ov TA 19 a (uL X 2 (dFun (X.2 2) j x)) m) := ov_sL (i := 2) (by decide) he rfl rfl rfl (by decide) hj
theorem A_n2 : aN (ov TA 19 a X m) (a + 2) = some (Int32.ofNat 8) := ov_aN (i := 2) (by decide) rfl rfl
theorem A_a3 {j : Nat} (hj : j < 8) : aI (ov TA 19 a X m) 0 (a + 3) (Int32.ofNat j) = some (X.1 3 j) := ov_aI (i := 3) (by decide) rfl rfl (by decide) (by decide) rfl (by decide) hj
theorem A_s3 {j : Nat} {x : Int32} (he : e.1 ≤ a) (hj : j < 8) : sI e (ov TA 19 a X m) 0 (a + 3) (Int32.ofNat j) x = some (ov TA 19 a (uA X 3 (wr (X.1 3) j x)) m) := ov_sI (i := 3) (by decide) he rfl rfl (by decide) (by decide) rfl (by decide) hj
theorem A_n3 : aN (ov TA 19 a X m) (a + 3) = some (Int32.ofNat 8) := ov_aN (i := 3) (by decide) rfl rfl
theorem A_a4 {j : Nat} (hj : j < 8) : aI (ov TA 19 a X m) 0 (a + 4) (Int32.ofNat j) = some (X.1 4 j) := ov_aI (i := 4) (by decide) rfl rfl (by decide) (by decide) rfl (by decide) hj
theorem A_s4 {j : Nat} {x : Int32} (he : e.1 ≤ a) (hj : j < 8) : sI e (ov TA 19 a X m) 0 (a + 4) (Int32.ofNat j) x = some (ov TA 19 a (uA X 4 (wr (X.1 4) j x)) m) := ov_sI (i := 4) (by decide) he rfl rfl (by decide) (by decide) rfl (by decide) hj
theorem A_n4 : aN (ov TA 19 a X m) (a + 4) = some (Int32.ofNat 8) := ov_aN (i := 4) (by decide) rfl rfl
theorem A_a5 {j : Nat} (hj : j < 8) : aI (ov TA 19 a X m) 4 (a + 5) (Int32.ofNat j) = some (X.1 5 j) := ov_aI (i := 5) (by decide) rfl rfl (by decide) (by decide) rfl (by decide) hj
theorem A_s5 {j : Nat} {x : Int32} (he : e.1 ≤ a) (hj : j < 8) : sI e (ov TA 19 a X m) 4 (a + 5) (Int32.ofNat j) x = some (ov TA 19 a (uA X 5 (wr (X.1 5) j (cvI 4 x))) m) := ov_sI (i := 5) (by decide) he rfl rfl (by decide) (by decide) rfl (by decide) hj
theorem A_n5 : aN (ov TA 19 a X m) (a + 5) = some (Int32.ofNat 8) := ov_aN (i := 5) (by decide) rfl rfl
theorem A_c6 : isC (ov TA 19 a X m) (a + 6) 6 = true := ov_isC (i := 6) (by decide) rfl
theorem A_r6_0 : gR (ov TA 19 a X m) (a + 6) 6 0 = some (a + 7) := ov_gR (i := 6) (by decide) rfl rfl
theorem A_r6_1 : gR (ov TA 19 a X m) (a + 6) 6 1 = some (a + 8) := ov_gR (i := 6) (by decide) rfl rfl
theorem A_g6_2 : gI (ov TA 19 a X m) (a + 6) 6 2 = some (X.1 6 2) := ov_gI (i := 6) (by decide) rfl rfl
theorem A_p6_2 {x : Int32} (he : e.1 ≤ a) : pI e (ov TA 19 a X m) (a + 6) 6 2 x = some (ov TA 19 a (uA X 6 (wr (X.1 6) 2 x)) m) := ov_pI (i := 6) (by decide) he rfl rfl
theorem A_a7 {j : Nat} (hj : j < 6) : aL (ov TA 19 a X m) 1 (a + 7) (Int32.ofNat j) = some (X.2 7 j) := ov_aL (i := 7) (by decide) rfl rfl rfl (by decide) hj
theorem A_s7 {j : Nat} {x : Int64} (he : e.1 ≤ a) (hj : j < 6) : sL e (ov TA 19 a X m) 1 (a + 7) (Int32.ofNat j) x = some (ov TA 19 a (uL X 7 (dFun (X.2 7) j x)) m) := ov_sL (i := 7) (by decide) he rfl rfl rfl (by decide) hj
theorem A_n7 : aN (ov TA 19 a X m) (a + 7) = some (Int32.ofNat 6) := ov_aN (i := 7) (by decide) rfl rfl
theorem A_a8 {j : Nat} (hj : j < 6) : aI (ov TA 19 a X m) 0 (a + 8) (Int32.ofNat j) = some (X.1 8 j) := ov_aI (i := 8) (by decide) rfl rfl (by decide) (by decide) rfl (by decide) hj
theorem A_s8 {j : Nat} {x : Int32} (he : e.1 ≤ a) (hj : j < 6) : sI e (ov TA 19 a X m) 0 (a + 8) (Int32.ofNat j) x = some (ov TA 19 a (uA X 8 (wr (X.1 8) j x)) m) := ov_sI (i := 8) (by decide) he rfl rfl (by decide) (by decide) rfl (by decide) hj
theorem A_n8 : aN (ov TA 19 a X m) (a + 8) = some (Int32.ofNat 6) := ov_aN (i := 8) (by decide) rfl rfl
theorem A_a9 {j : Nat} (hj : j < 24) : aI (ov TA 19 a X m) 0 (a + 9) (Int32.ofNat j) = some (X.1 9 j) := ov_aI (i := 9) (by decide) rfl rfl (by decide) (by decide) rfl (by decide) hj
theorem A_s9 {j : Nat} {x : Int32} (he : e.1 ≤ a) (hj : j < 24) : sI e (ov TA 19 a X m) 0 (a + 9) (Int32.ofNat j) x = some (ov TA 19 a (uA X 9 (wr (X.1 9) j x)) m) := ov_sI (i := 9) (by decide) he rfl rfl (by decide) (by decide) rfl (by decide) hj
theorem A_n9 : aN (ov TA 19 a X m) (a + 9) = some (Int32.ofNat 24) := ov_aN (i := 9) (by decide) rfl rfl
theorem A_a10 {j : Nat} (hj : j < 24) : aI (ov TA 19 a X m) 0 (a + 10) (Int32.ofNat j) = some (X.1 10 j) := ov_aI (i := 10) (by decide) rfl rfl (by decide) (by decide) rfl (by decide) hj
theorem A_s10 {j : Nat} {x : Int32} (he : e.1 ≤ a) (hj : j < 24) : sI e (ov TA 19 a X m) 0 (a + 10) (Int32.ofNat j) x = some (ov TA 19 a (uA X 10 (wr (X.1 10) j x)) m) := ov_sI (i := 10) (by decide) he rfl rfl (by decide) (by decide) rfl (by decide) hj
theorem A_n10 : aN (ov TA 19 a X m) (a + 10) = some (Int32.ofNat 24) := ov_aN (i := 10) (by decide) rfl rfl
theorem A_a11 {j : Nat} (hj : j < 24) : aI (ov TA 19 a X m) 0 (a + 11) (Int32.ofNat j) = some (X.1 11 j) := ov_aI (i := 11) (by decide) rfl rfl (by decide) (by decide) rfl (by decide) hj
theorem A_s11 {j : Nat} {x : Int32} (he : e.1 ≤ a) (hj : j < 24) : sI e (ov TA 19 a X m) 0 (a + 11) (Int32.ofNat j) x = some (ov TA 19 a (uA X 11 (wr (X.1 11) j x)) m) := ov_sI (i := 11) (by decide) he rfl rfl (by decide) (by decide) rfl (by decide) hj
theorem A_n11 : aN (ov TA 19 a X m) (a + 11) = some (Int32.ofNat 24) := ov_aN (i := 11) (by decide) rfl rfl
theorem A_a12 {j : Nat} (hj : j < 24) : aI (ov TA 19 a X m) 0 (a + 12) (Int32.ofNat j) = some (X.1 12 j) := ov_aI (i := 12) (by decide) rfl rfl (by decide) (by decide) rfl (by decide) hj
theorem A_s12 {j : Nat} {x : Int32} (he : e.1 ≤ a) (hj : j < 24) : sI e (ov TA 19 a X m) 0 (a + 12) (Int32.ofNat j) x = some (ov TA 19 a (uA X 12 (wr (X.1 12) j x)) m) := ov_sI (i := 12) (by decide) he rfl rfl (by decide) (by decide) rfl (by decide) hj
theorem A_n12 : aN (ov TA 19 a X m) (a + 12) = some (Int32.ofNat 24) := ov_aN (i := 12) (by decide) rfl rfl
theorem A_a13 {j : Nat} (hj : j < 24) : aI (ov TA 19 a X m) 0 (a + 13) (Int32.ofNat j) = some (X.1 13 j) := ov_aI (i := 13) (by decide) rfl rfl (by decide) (by decide) rfl (by decide) hj
theorem A_s13 {j : Nat} {x : Int32} (he : e.1 ≤ a) (hj : j < 24) : sI e (ov TA 19 a X m) 0 (a + 13) (Int32.ofNat j) x = some (ov TA 19 a (uA X 13 (wr (X.1 13) j x)) m) := ov_sI (i := 13) (by decide) he rfl rfl (by decide) (by decide) rfl (by decide) hj
theorem A_n13 : aN (ov TA 19 a X m) (a + 13) = some (Int32.ofNat 24) := ov_aN (i := 13) (by decide) rfl rfl
theorem A_a14 {j : Nat} (hj : j < 24) : aI (ov TA 19 a X m) 0 (a + 14) (Int32.ofNat j) = some (X.1 14 j) := ov_aI (i := 14) (by decide) rfl rfl (by decide) (by decide) rfl (by decide) hj
theorem A_s14 {j : Nat} {x : Int32} (he : e.1 ≤ a) (hj : j < 24) : sI e (ov TA 19 a X m) 0 (a + 14) (Int32.ofNat j) x = some (ov TA 19 a (uA X 14 (wr (X.1 14) j x)) m) := ov_sI (i := 14) (by decide) he rfl rfl (by decide) (by decide) rfl (by decide) hj
theorem A_n14 : aN (ov TA 19 a X m) (a + 14) = some (Int32.ofNat 24) := ov_aN (i := 14) (by decide) rfl rfl
theorem A_a15 {j : Nat} (hj : j < 24) : aI (ov TA 19 a X m) 0 (a + 15) (Int32.ofNat j) = some (X.1 15 j) := ov_aI (i := 15) (by decide) rfl rfl (by decide) (by decide) rfl (by decide) hj
theorem A_s15 {j : Nat} {x : Int32} (he : e.1 ≤ a) (hj : j < 24) : sI e (ov TA 19 a X m) 0 (a + 15) (Int32.ofNat j) x = some (ov TA 19 a (uA X 15 (wr (X.1 15) j x)) m) := ov_sI (i := 15) (by decide) he rfl rfl (by decide) (by decide) rfl (by decide) hj
theorem A_n15 : aN (ov TA 19 a X m) (a + 15) = some (Int32.ofNat 24) := ov_aN (i := 15) (by decide) rfl rfl
theorem A_a16 {j : Nat} (hj : j < 24) : aI (ov TA 19 a X m) 0 (a + 16) (Int32.ofNat j) = some (X.1 16 j) := ov_aI (i := 16) (by decide) rfl rfl (by decide) (by decide) rfl (by decide) hj
theorem A_s16 {j : Nat} {x : Int32} (he : e.1 ≤ a) (hj : j < 24) : sI e (ov TA 19 a X m) 0 (a + 16) (Int32.ofNat j) x = some (ov TA 19 a (uA X 16 (wr (X.1 16) j x)) m) := ov_sI (i := 16) (by decide) he rfl rfl (by decide) (by decide) rfl (by decide) hj
theorem A_n16 : aN (ov TA 19 a X m) (a + 16) = some (Int32.ofNat 24) := ov_aN (i := 16) (by decide) rfl rfl
theorem A_a17 {j : Nat} (hj : j < 72) : aI (ov TA 19 a X m) 0 (a + 17) (Int32.ofNat j) = some (X.1 17 j) := ov_aI (i := 17) (by decide) rfl rfl (by decide) (by decide) rfl (by decide) hj
theorem A_s17 {j : Nat} {x : Int32} (he : e.1 ≤ a) (hj : j < 72) : sI e (ov TA 19 a X m) 0 (a + 17) (Int32.ofNat j) x = some (ov TA 19 a (uA X 17 (wr (X.1 17) j x)) m) := ov_sI (i := 17) (by decide) he rfl rfl (by decide) (by decide) rfl (by decide) hj
theorem A_n17 : aN (ov TA 19 a X m) (a + 17) = some (Int32.ofNat 72) := ov_aN (i := 17) (by decide) rfl rfl
theorem A_a18 {j : Nat} (hj : j < 24) : aI (ov TA 19 a X m) 0 (a + 18) (Int32.ofNat j) = some (X.1 18 j) := ov_aI (i := 18) (by decide) rfl rfl (by decide) (by decide) rfl (by decide) hj
theorem A_s18 {j : Nat} {x : Int32} (he : e.1 ≤ a) (hj : j < 24) : sI e (ov TA 19 a X m) 0 (a + 18) (Int32.ofNat j) x = some (ov TA 19 a (uA X 18 (wr (X.1 18) j x)) m) := ov_sI (i := 18) (by decide) he rfl rfl (by decide) (by decide) rfl (by decide) hj
theorem A_n18 : aN (ov TA 19 a X m) (a + 18) = some (Int32.ofNat 24) := ov_aN (i := 18) (by decide) rfl rfl
end
def TMc : Nat → Nat
  | 0 => 11
  | _ => 0
def TMr0 : Nat → Nat
  | 2 => 2
  | 3 => 3
  | 4 => 4
  | 6 => 5
  | 7 => 6
  | 18 => 7
  | 20 => 8
  | _ => 0
def TMr : Nat → Nat → Nat
  | 0 => TMr0
  | _ => fun _ => 0
def TMk : Nat → Nat
  | 4 => 4
  | _ => 0
def TMn : Nat → Nat
  | 1 => 118
  | 2 => 315
  | 3 => 3465
  | 4 => 2
  | 5 => 600
  | 6 => 118
  | 7 => 400
  | _ => 0
def TM : bTab := (TMc, TMr, TMk, TMn)
section
variable {e : dEnv} {a : Nat} {X : bX} {m : dMem}
theorem M_c0 : isC (ov TM 8 a X m) a 10 = true := ov_isC (i := 0) (by decide) rfl
theorem M_g0_0 : gI (ov TM 8 a X m) a 10 0 = some (X.1 0 0) := ov_gI (i := 0) (by decide) rfl rfl
theorem M_p0_0 {x : Int32} (he : e.1 ≤ a) : pI e (ov TM 8 a X m) a 10 0 x = some (ov TM 8 a (uA X 0 (wr (X.1 0) 0 x)) m) := ov_pI (i := 0) (by decide) he rfl rfl
theorem M_g0_1 : gI (ov TM 8 a X m) a 10 1 = some (X.1 0 1) := ov_gI (i := 0) (by decide) rfl rfl
theorem M_p0_1 (he : e.1 ≤ a) : pZ e (ov TM 8 a X m) a 10 1 (Int32.ofNat 1) = some (ov TM 8 a (uA X 0 (wr (X.1 0) 1 (Int32.ofNat 1))) m) := ov_pZ (x := true) (i := 0) (by decide) he rfl rfl
theorem M_r0_2 : gR (ov TM 8 a X m) a 10 2 = some (a + 1) := ov_gR (i := 0) (by decide) rfl rfl
theorem M_r0_3 : gR (ov TM 8 a X m) a 10 3 = some (a + 2) := ov_gR (i := 0) (by decide) rfl rfl
theorem M_r0_4 : gR (ov TM 8 a X m) a 10 4 = some (a + 3) := ov_gR (i := 0) (by decide) rfl rfl
theorem M_g0_5 : gI (ov TM 8 a X m) a 10 5 = some (X.1 0 5) := ov_gI (i := 0) (by decide) rfl rfl
theorem M_p0_5 {x : Int32} (he : e.1 ≤ a) : pI e (ov TM 8 a X m) a 10 5 x = some (ov TM 8 a (uA X 0 (wr (X.1 0) 5 x)) m) := ov_pI (i := 0) (by decide) he rfl rfl
theorem M_r0_6 : gR (ov TM 8 a X m) a 10 6 = some (a + 4) := ov_gR (i := 0) (by decide) rfl rfl
theorem M_r0_7 : gR (ov TM 8 a X m) a 10 7 = some (a + 5) := ov_gR (i := 0) (by decide) rfl rfl
theorem M_g0_8 : gI (ov TM 8 a X m) a 10 8 = some (X.1 0 8) := ov_gI (i := 0) (by decide) rfl rfl
theorem M_p0_8 {x : Int32} (he : e.1 ≤ a) : pI e (ov TM 8 a X m) a 10 8 x = some (ov TM 8 a (uA X 0 (wr (X.1 0) 8 x)) m) := ov_pI (i := 0) (by decide) he rfl rfl
theorem M_g0_9 : gI (ov TM 8 a X m) a 10 9 = some (X.1 0 9) := ov_gI (i := 0) (by decide) rfl rfl
theorem M_p0_9 {x : Int32} (he : e.1 ≤ a) : pI e (ov TM 8 a X m) a 10 9 x = some (ov TM 8 a (uA X 0 (wr (X.1 0) 9 x)) m) := ov_pI (i := 0) (by decide) he rfl rfl
theorem M_g0_10 : gI (ov TM 8 a X m) a 10 10 = some (X.1 0 10) := ov_gI (i := 0) (by decide) rfl rfl
theorem M_p0_10 {x : Int32} (he : e.1 ≤ a) : pI e (ov TM 8 a X m) a 10 10 x = some (ov TM 8 a (uA X 0 (wr (X.1 0) 10 x)) m) := ov_pI (i := 0) (by decide) he rfl rfl
theorem M_g0_11 : gI (ov TM 8 a X m) a 10 11 = some (X.1 0 11) := ov_gI (i := 0) (by decide) rfl rfl
theorem M_p0_11 {x : Int32} (he : e.1 ≤ a) : pI e (ov TM 8 a X m) a 10 11 x = some (ov TM 8 a (uA X 0 (wr (X.1 0) 11 x)) m) := ov_pI (i := 0) (by decide) he rfl rfl
theorem M_g0_12 : gI (ov TM 8 a X m) a 10 12 = some (X.1 0 12) := ov_gI (i := 0) (by decide) rfl rfl
theorem M_p0_12 {x : Int32} (he : e.1 ≤ a) : pI e (ov TM 8 a X m) a 10 12 x = some (ov TM 8 a (uA X 0 (wr (X.1 0) 12 x)) m) := ov_pI (i := 0) (by decide) he rfl rfl
theorem M_g0_13 : gI (ov TM 8 a X m) a 10 13 = some (X.1 0 13) := ov_gI (i := 0) (by decide) rfl rfl
theorem M_p0_13 {x : Int32} (he : e.1 ≤ a) : pI e (ov TM 8 a X m) a 10 13 x = some (ov TM 8 a (uA X 0 (wr (X.1 0) 13 x)) m) := ov_pI (i := 0) (by decide) he rfl rfl
theorem M_g0_14 : gI (ov TM 8 a X m) a 10 14 = some (X.1 0 14) := ov_gI (i := 0) (by decide) rfl rfl
theorem M_p0_14 {x : Int32} (he : e.1 ≤ a) : pI e (ov TM 8 a X m) a 10 14 x = some (ov TM 8 a (uA X 0 (wr (X.1 0) 14 x)) m) := ov_pI (i := 0) (by decide) he rfl rfl
theorem M_g0_15 : gI (ov TM 8 a X m) a 10 15 = some (X.1 0 15) := ov_gI (i := 0) (by decide) rfl rfl
theorem M_p0_15 {x : Int32} (he : e.1 ≤ a) : pI e (ov TM 8 a X m) a 10 15 x = some (ov TM 8 a (uA X 0 (wr (X.1 0) 15 x)) m) := ov_pI (i := 0) (by decide) he rfl rfl
theorem M_g0_16 : gI (ov TM 8 a X m) a 10 16 = some (X.1 0 16) := ov_gI (i := 0) (by decide) rfl rfl
theorem M_p0_16 {x : Int32} (he : e.1 ≤ a) : pI e (ov TM 8 a X m) a 10 16 x = some (ov TM 8 a (uA X 0 (wr (X.1 0) 16 x)) m) := ov_pI (i := 0) (by decide) he rfl rfl
theorem M_g0_17 : gI (ov TM 8 a X m) a 10 17 = some (X.1 0 17) := ov_gI (i := 0) (by decide) rfl rfl
theorem M_p0_17 {x : Int32} (he : e.1 ≤ a) : pI e (ov TM 8 a X m) a 10 17 x = some (ov TM 8 a (uA X 0 (wr (X.1 0) 17 x)) m) := ov_pI (i := 0) (by decide) he rfl rfl
theorem M_r0_18 : gR (ov TM 8 a X m) a 10 18 = some (a + 6) := ov_gR (i := 0) (by decide) rfl rfl
theorem M_g0_19 : gI (ov TM 8 a X m) a 10 19 = some (X.1 0 19) := ov_gI (i := 0) (by decide) rfl rfl
theorem M_p0_19 {x : Int32} (he : e.1 ≤ a) : pI e (ov TM 8 a X m) a 10 19 x = some (ov TM 8 a (uA X 0 (wr (X.1 0) 19 x)) m) := ov_pI (i := 0) (by decide) he rfl rfl
theorem M_r0_20 : gR (ov TM 8 a X m) a 10 20 = some (a + 7) := ov_gR (i := 0) (by decide) rfl rfl
theorem M_g0_21 : gI (ov TM 8 a X m) a 10 21 = some (X.1 0 21) := ov_gI (i := 0) (by decide) rfl rfl
theorem M_p0_21 {x : Int32} (he : e.1 ≤ a) : pI e (ov TM 8 a X m) a 10 21 x = some (ov TM 8 a (uA X 0 (wr (X.1 0) 21 x)) m) := ov_pI (i := 0) (by decide) he rfl rfl
theorem M_a1 {j : Nat} (hj : j < 118) : aI (ov TM 8 a X m) 0 (a + 1) (Int32.ofNat j) = some (X.1 1 j) := ov_aI (i := 1) (by decide) rfl rfl (by decide) (by decide) rfl (by decide) hj
theorem M_s1 {j : Nat} {x : Int32} (he : e.1 ≤ a) (hj : j < 118) : sI e (ov TM 8 a X m) 0 (a + 1) (Int32.ofNat j) x = some (ov TM 8 a (uA X 1 (wr (X.1 1) j x)) m) := ov_sI (i := 1) (by decide) he rfl rfl (by decide) (by decide) rfl (by decide) hj
theorem M_n1 : aN (ov TM 8 a X m) (a + 1) = some (Int32.ofNat 118) := ov_aN (i := 1) (by decide) rfl rfl
theorem M_a2 {j : Nat} (hj : j < 315) : aI (ov TM 8 a X m) 0 (a + 2) (Int32.ofNat j) = some (X.1 2 j) := ov_aI (i := 2) (by decide) rfl rfl (by decide) (by decide) rfl (by decide) hj
theorem M_s2 {j : Nat} {x : Int32} (he : e.1 ≤ a) (hj : j < 315) : sI e (ov TM 8 a X m) 0 (a + 2) (Int32.ofNat j) x = some (ov TM 8 a (uA X 2 (wr (X.1 2) j x)) m) := ov_sI (i := 2) (by decide) he rfl rfl (by decide) (by decide) rfl (by decide) hj
theorem M_n2 : aN (ov TM 8 a X m) (a + 2) = some (Int32.ofNat 315) := ov_aN (i := 2) (by decide) rfl rfl
theorem M_a3 {j : Nat} (hj : j < 3465) : aI (ov TM 8 a X m) 0 (a + 3) (Int32.ofNat j) = some (X.1 3 j) := ov_aI (i := 3) (by decide) rfl rfl (by decide) (by decide) rfl (by decide) hj
theorem M_s3 {j : Nat} {x : Int32} (he : e.1 ≤ a) (hj : j < 3465) : sI e (ov TM 8 a X m) 0 (a + 3) (Int32.ofNat j) x = some (ov TM 8 a (uA X 3 (wr (X.1 3) j x)) m) := ov_sI (i := 3) (by decide) he rfl rfl (by decide) (by decide) rfl (by decide) hj
theorem M_n3 : aN (ov TM 8 a X m) (a + 3) = some (Int32.ofNat 3465) := ov_aN (i := 3) (by decide) rfl rfl
theorem M_a4 {j : Nat} (hj : j < 2) : aI (ov TM 8 a X m) 4 (a + 4) (Int32.ofNat j) = some (X.1 4 j) := ov_aI (i := 4) (by decide) rfl rfl (by decide) (by decide) rfl (by decide) hj
theorem M_s4 {j : Nat} {x : Int32} (he : e.1 ≤ a) (hj : j < 2) : sI e (ov TM 8 a X m) 4 (a + 4) (Int32.ofNat j) x = some (ov TM 8 a (uA X 4 (wr (X.1 4) j (cvI 4 x))) m) := ov_sI (i := 4) (by decide) he rfl rfl (by decide) (by decide) rfl (by decide) hj
theorem M_n4 : aN (ov TM 8 a X m) (a + 4) = some (Int32.ofNat 2) := ov_aN (i := 4) (by decide) rfl rfl
theorem M_a5 {j : Nat} (hj : j < 600) : aI (ov TM 8 a X m) 0 (a + 5) (Int32.ofNat j) = some (X.1 5 j) := ov_aI (i := 5) (by decide) rfl rfl (by decide) (by decide) rfl (by decide) hj
theorem M_s5 {j : Nat} {x : Int32} (he : e.1 ≤ a) (hj : j < 600) : sI e (ov TM 8 a X m) 0 (a + 5) (Int32.ofNat j) x = some (ov TM 8 a (uA X 5 (wr (X.1 5) j x)) m) := ov_sI (i := 5) (by decide) he rfl rfl (by decide) (by decide) rfl (by decide) hj
theorem M_n5 : aN (ov TM 8 a X m) (a + 5) = some (Int32.ofNat 600) := ov_aN (i := 5) (by decide) rfl rfl
theorem M_a6 {j : Nat} (hj : j < 118) : aI (ov TM 8 a X m) 0 (a + 6) (Int32.ofNat j) = some (X.1 6 j) := ov_aI (i := 6) (by decide) rfl rfl (by decide) (by decide) rfl (by decide) hj
theorem M_s6 {j : Nat} {x : Int32} (he : e.1 ≤ a) (hj : j < 118) : sI e (ov TM 8 a X m) 0 (a + 6) (Int32.ofNat j) x = some (ov TM 8 a (uA X 6 (wr (X.1 6) j x)) m) := ov_sI (i := 6) (by decide) he rfl rfl (by decide) (by decide) rfl (by decide) hj
theorem M_n6 : aN (ov TM 8 a X m) (a + 6) = some (Int32.ofNat 118) := ov_aN (i := 6) (by decide) rfl rfl
theorem M_a7 {j : Nat} (hj : j < 400) : aI (ov TM 8 a X m) 0 (a + 7) (Int32.ofNat j) = some (X.1 7 j) := ov_aI (i := 7) (by decide) rfl rfl (by decide) (by decide) rfl (by decide) hj
theorem M_s7 {j : Nat} {x : Int32} (he : e.1 ≤ a) (hj : j < 400) : sI e (ov TM 8 a X m) 0 (a + 7) (Int32.ofNat j) x = some (ov TM 8 a (uA X 7 (wr (X.1 7) j x)) m) := ov_sI (i := 7) (by decide) he rfl rfl (by decide) (by decide) rfl (by decide) hj
theorem M_n7 : aN (ov TM 8 a X m) (a + 7) = some (Int32.ofNat 400) := ov_aN (i := 7) (by decide) rfl rfl
end
def TIc : Nat → Nat
  | 0 => 6
  | 1 => 5
  | _ => 0
def TIr0 : Nat → Nat
  | 0 => 2
  | 1 => 7
  | _ => 0
def TIr1 : Nat → Nat
  | 0 => 3
  | 2 => 4
  | 3 => 5
  | 4 => 6
  | _ => 0
def TIr : Nat → Nat → Nat
  | 0 => TIr0
  | 1 => TIr1
  | _ => fun _ => 0
def TIk : Nat → Nat
  | 2 => 3
  | _ => 0
def TIn : Nat → Nat
  | 2 => 600
  | 3 => 601
  | 4 => 601
  | 5 => 601
  | _ => 0
def TI : bTab := (TIc, TIr, TIk, TIn)
section
variable {e : dEnv} {a : Nat} {X : bX} {m : dMem}
theorem I_c0 : isC (ov TI 6 a X m) a 5 = true := ov_isC (i := 0) (by decide) rfl
theorem I_r0_0 : gR (ov TI 6 a X m) a 5 0 = some (a + 1) := ov_gR (i := 0) (by decide) rfl rfl
theorem I_r0_1 : gR (ov TI 6 a X m) a 5 1 = some (a + 6) := ov_gR (i := 0) (by decide) rfl rfl
theorem I_g0_2 : gI (ov TI 6 a X m) a 5 2 = some (X.1 0 2) := ov_gI (i := 0) (by decide) rfl rfl
theorem I_p0_2 {x : Int32} (he : e.1 ≤ a) : pI e (ov TI 6 a X m) a 5 2 x = some (ov TI 6 a (uA X 0 (wr (X.1 0) 2 x)) m) := ov_pI (i := 0) (by decide) he rfl rfl
theorem I_g0_3 : gI (ov TI 6 a X m) a 5 3 = some (X.1 0 3) := ov_gI (i := 0) (by decide) rfl rfl
theorem I_p0_3 {x : Int32} (he : e.1 ≤ a) : pI e (ov TI 6 a X m) a 5 3 x = some (ov TI 6 a (uA X 0 (wr (X.1 0) 3 x)) m) := ov_pI (i := 0) (by decide) he rfl rfl
theorem I_g0_4 : gI (ov TI 6 a X m) a 5 4 = some (X.1 0 4) := ov_gI (i := 0) (by decide) rfl rfl
theorem I_p0_4 {x : Int32} (he : e.1 ≤ a) : pI e (ov TI 6 a X m) a 5 4 x = some (ov TI 6 a (uA X 0 (wr (X.1 0) 4 x)) m) := ov_pI (i := 0) (by decide) he rfl rfl
theorem I_c1 : isC (ov TI 6 a X m) (a + 1) 4 = true := ov_isC (i := 1) (by decide) rfl
theorem I_r1_0 : gR (ov TI 6 a X m) (a + 1) 4 0 = some (a + 2) := ov_gR (i := 1) (by decide) rfl rfl
theorem I_g1_1 : gI (ov TI 6 a X m) (a + 1) 4 1 = some (X.1 1 1) := ov_gI (i := 1) (by decide) rfl rfl
theorem I_p1_1 {x : Int32} (he : e.1 ≤ a) : pI e (ov TI 6 a X m) (a + 1) 4 1 x = some (ov TI 6 a (uA X 1 (wr (X.1 1) 1 x)) m) := ov_pI (i := 1) (by decide) he rfl rfl
theorem I_r1_2 : gR (ov TI 6 a X m) (a + 1) 4 2 = some (a + 3) := ov_gR (i := 1) (by decide) rfl rfl
theorem I_r1_3 : gR (ov TI 6 a X m) (a + 1) 4 3 = some (a + 4) := ov_gR (i := 1) (by decide) rfl rfl
theorem I_r1_4 : gR (ov TI 6 a X m) (a + 1) 4 4 = some (a + 5) := ov_gR (i := 1) (by decide) rfl rfl
theorem I_g1_5 : gI (ov TI 6 a X m) (a + 1) 4 5 = some (X.1 1 5) := ov_gI (i := 1) (by decide) rfl rfl
theorem I_p1_5 {x : Int32} (he : e.1 ≤ a) : pI e (ov TI 6 a X m) (a + 1) 4 5 x = some (ov TI 6 a (uA X 1 (wr (X.1 1) 5 x)) m) := ov_pI (i := 1) (by decide) he rfl rfl
theorem I_g1_6 : gI (ov TI 6 a X m) (a + 1) 4 6 = some (X.1 1 6) := ov_gI (i := 1) (by decide) rfl rfl
theorem I_p1_6 {x : Int32} (he : e.1 ≤ a) : pI e (ov TI 6 a X m) (a + 1) 4 6 x = some (ov TI 6 a (uA X 1 (wr (X.1 1) 6 x)) m) := ov_pI (i := 1) (by decide) he rfl rfl
theorem I_a2 {j : Nat} (hj : j < 600) : aI (ov TI 6 a X m) 3 (a + 2) (Int32.ofNat j) = some (X.1 2 j) := ov_aI (i := 2) (by decide) rfl rfl (by decide) (by decide) rfl (by decide) hj
theorem I_s2 {j : Nat} {x : Int32} (he : e.1 ≤ a) (hj : j < 600) : sI e (ov TI 6 a X m) 3 (a + 2) (Int32.ofNat j) x = some (ov TI 6 a (uA X 2 (wr (X.1 2) j (cvI 3 x))) m) := ov_sI (i := 2) (by decide) he rfl rfl (by decide) (by decide) rfl (by decide) hj
theorem I_n2 : aN (ov TI 6 a X m) (a + 2) = some (Int32.ofNat 600) := ov_aN (i := 2) (by decide) rfl rfl
theorem I_a3 {j : Nat} (hj : j < 601) : aI (ov TI 6 a X m) 0 (a + 3) (Int32.ofNat j) = some (X.1 3 j) := ov_aI (i := 3) (by decide) rfl rfl (by decide) (by decide) rfl (by decide) hj
theorem I_s3 {j : Nat} {x : Int32} (he : e.1 ≤ a) (hj : j < 601) : sI e (ov TI 6 a X m) 0 (a + 3) (Int32.ofNat j) x = some (ov TI 6 a (uA X 3 (wr (X.1 3) j x)) m) := ov_sI (i := 3) (by decide) he rfl rfl (by decide) (by decide) rfl (by decide) hj
theorem I_n3 : aN (ov TI 6 a X m) (a + 3) = some (Int32.ofNat 601) := ov_aN (i := 3) (by decide) rfl rfl
theorem I_a4 {j : Nat} (hj : j < 601) : aI (ov TI 6 a X m) 0 (a + 4) (Int32.ofNat j) = some (X.1 4 j) := ov_aI (i := 4) (by decide) rfl rfl (by decide) (by decide) rfl (by decide) hj
theorem I_s4 {j : Nat} {x : Int32} (he : e.1 ≤ a) (hj : j < 601) : sI e (ov TI 6 a X m) 0 (a + 4) (Int32.ofNat j) x = some (ov TI 6 a (uA X 4 (wr (X.1 4) j x)) m) := ov_sI (i := 4) (by decide) he rfl rfl (by decide) (by decide) rfl (by decide) hj
theorem I_n4 : aN (ov TI 6 a X m) (a + 4) = some (Int32.ofNat 601) := ov_aN (i := 4) (by decide) rfl rfl
theorem I_a5 {j : Nat} (hj : j < 601) : aI (ov TI 6 a X m) 0 (a + 5) (Int32.ofNat j) = some (X.1 5 j) := ov_aI (i := 5) (by decide) rfl rfl (by decide) (by decide) rfl (by decide) hj
theorem I_s5 {j : Nat} {x : Int32} (he : e.1 ≤ a) (hj : j < 601) : sI e (ov TI 6 a X m) 0 (a + 5) (Int32.ofNat j) x = some (ov TI 6 a (uA X 5 (wr (X.1 5) j x)) m) := ov_sI (i := 5) (by decide) he rfl rfl (by decide) (by decide) rfl (by decide) hj
theorem I_n5 : aN (ov TI 6 a X m) (a + 5) = some (Int32.ofNat 601) := ov_aN (i := 5) (by decide) rfl rfl
end
def TRc : Nat → Nat
  | 0 => 10
  | _ => 0
def TRr0 : Nat → Nat
  | 0 => 2
  | 1 => 27
  | 2 => 46
  | 3 => 65
  | 4 => 219
  | 5 => 260
  | _ => 0
def TRr : Nat → Nat → Nat
  | 0 => TRr0
  | _ => fun _ => 0
def TRk : Nat → Nat
  | _ => 0
def TRn : Nat → Nat
  | _ => 0
def TR : bTab := (TRc, TRr, TRk, TRn)
section
variable {e : dEnv} {a : Nat} {X : bX} {m : dMem}
theorem R_c0 : isC (ov TR 1 a X m) a 9 = true := ov_isC (i := 0) (by decide) rfl
theorem R_r0_0 : gR (ov TR 1 a X m) a 9 0 = some (a + 1) := ov_gR (i := 0) (by decide) rfl rfl
theorem R_r0_1 : gR (ov TR 1 a X m) a 9 1 = some (a + 26) := ov_gR (i := 0) (by decide) rfl rfl
theorem R_r0_2 : gR (ov TR 1 a X m) a 9 2 = some (a + 45) := ov_gR (i := 0) (by decide) rfl rfl
theorem R_r0_3 : gR (ov TR 1 a X m) a 9 3 = some (a + 64) := ov_gR (i := 0) (by decide) rfl rfl
theorem R_r0_4 : gR (ov TR 1 a X m) a 9 4 = some (a + 218) := ov_gR (i := 0) (by decide) rfl rfl
theorem R_r0_5 : gR (ov TR 1 a X m) a 9 5 = some (a + 259) := ov_gR (i := 0) (by decide) rfl rfl
theorem R_g0_6 : gI (ov TR 1 a X m) a 9 6 = some (X.1 0 6) := ov_gI (i := 0) (by decide) rfl rfl
theorem R_p0_6 (he : e.1 ≤ a) : pZ e (ov TR 1 a X m) a 9 6 (Int32.ofNat 1) = some (ov TR 1 a (uA X 0 (wr (X.1 0) 6 (Int32.ofNat 1))) m) := ov_pZ (x := true) (i := 0) (by decide) he rfl rfl
end
def THc : Nat → Nat
  | 0 => 4
  | _ => 0
def THr0 : Nat → Nat
  | 0 => 2
  | _ => 0
def THr1 : Nat → Nat
  | 0 => 3
  | 1 => 22
  | 2 => 41
  | 3 => 60
  | 4 => 79
  | 5 => 98
  | 6 => 117
  | 7 => 136
  | _ => 0
def THr : Nat → Nat → Nat
  | 0 => THr0
  | 1 => THr1
  | _ => fun _ => 0
def THk : Nat → Nat
  | 1 => 5
  | _ => 0
def THn : Nat → Nat
  | 1 => 8
  | _ => 0
def TH : bTab := (THc, THr, THk, THn)
section
variable {e : dEnv} {a : Nat} {X : bX} {m : dMem}
theorem H_c0 : isC (ov TH 2 a X m) a 3 = true := ov_isC (i := 0) (by decide) rfl
theorem H_r0_0 : gR (ov TH 2 a X m) a 3 0 = some (a + 1) := ov_gR (i := 0) (by decide) rfl rfl
theorem H_g0_1 : gI (ov TH 2 a X m) a 3 1 = some (X.1 0 1) := ov_gI (i := 0) (by decide) rfl rfl
theorem H_p0_1 {x : Int32} (he : e.1 ≤ a) : pI e (ov TH 2 a X m) a 3 1 x = some (ov TH 2 a (uA X 0 (wr (X.1 0) 1 x)) m) := ov_pI (i := 0) (by decide) he rfl rfl
theorem H_g0_2 : gI (ov TH 2 a X m) a 3 2 = some (X.1 0 2) := ov_gI (i := 0) (by decide) rfl rfl
theorem H_p0_2 {x : Int32} (he : e.1 ≤ a) : pI e (ov TH 2 a X m) a 3 2 x = some (ov TH 2 a (uA X 0 (wr (X.1 0) 2 x)) m) := ov_pI (i := 0) (by decide) he rfl rfl
theorem H_q1_0 : aR (ov TH 2 a X m) 5 (a + 1) (Int32.ofNat 0) = some (a + 2) := ov_aR (j := 0) (i := 1) (by decide) rfl rfl rfl (by decide) (by decide) rfl
theorem H_q1_1 : aR (ov TH 2 a X m) 5 (a + 1) (Int32.ofNat 1) = some (a + 21) := ov_aR (j := 1) (i := 1) (by decide) rfl rfl rfl (by decide) (by decide) rfl
theorem H_q1_2 : aR (ov TH 2 a X m) 5 (a + 1) (Int32.ofNat 2) = some (a + 40) := ov_aR (j := 2) (i := 1) (by decide) rfl rfl rfl (by decide) (by decide) rfl
theorem H_q1_3 : aR (ov TH 2 a X m) 5 (a + 1) (Int32.ofNat 3) = some (a + 59) := ov_aR (j := 3) (i := 1) (by decide) rfl rfl rfl (by decide) (by decide) rfl
theorem H_q1_4 : aR (ov TH 2 a X m) 5 (a + 1) (Int32.ofNat 4) = some (a + 78) := ov_aR (j := 4) (i := 1) (by decide) rfl rfl rfl (by decide) (by decide) rfl
theorem H_q1_5 : aR (ov TH 2 a X m) 5 (a + 1) (Int32.ofNat 5) = some (a + 97) := ov_aR (j := 5) (i := 1) (by decide) rfl rfl rfl (by decide) (by decide) rfl
theorem H_q1_6 : aR (ov TH 2 a X m) 5 (a + 1) (Int32.ofNat 6) = some (a + 116) := ov_aR (j := 6) (i := 1) (by decide) rfl rfl rfl (by decide) (by decide) rfl
theorem H_q1_7 : aR (ov TH 2 a X m) 5 (a + 1) (Int32.ofNat 7) = some (a + 135) := ov_aR (j := 7) (i := 1) (by decide) rfl rfl rfl (by decide) (by decide) rfl
end
def TSc : Nat → Nat
  | 0 => 9
  | _ => 0
def TSr0 : Nat → Nat
  | 0 => 2
  | 1 => 3
  | _ => 0
def TSr1 : Nat → Nat
  | 0 => 4
  | 1 => 23
  | _ => 0
def TSr : Nat → Nat → Nat
  | 0 => TSr0
  | 1 => TSr1
  | _ => fun _ => 0
def TSk : Nat → Nat
  | 1 => 5
  | 2 => 4
  | _ => 0
def TSn : Nat → Nat
  | 1 => 2
  | 2 => 2
  | _ => 0
def TS : bTab := (TSc, TSr, TSk, TSn)
section
variable {e : dEnv} {a : Nat} {X : bX} {m : dMem}
theorem S_c0 : isC (ov TS 3 a X m) a 8 = true := ov_isC (i := 0) (by decide) rfl
theorem S_r0_0 : gR (ov TS 3 a X m) a 8 0 = some (a + 1) := ov_gR (i := 0) (by decide) rfl rfl
theorem S_r0_1 : gR (ov TS 3 a X m) a 8 1 = some (a + 2) := ov_gR (i := 0) (by decide) rfl rfl
theorem S_q1_0 : aR (ov TS 3 a X m) 5 (a + 1) (Int32.ofNat 0) = some (a + 3) := ov_aR (j := 0) (i := 1) (by decide) rfl rfl rfl (by decide) (by decide) rfl
theorem S_q1_1 : aR (ov TS 3 a X m) 5 (a + 1) (Int32.ofNat 1) = some (a + 22) := ov_aR (j := 1) (i := 1) (by decide) rfl rfl rfl (by decide) (by decide) rfl
theorem S_a2 {j : Nat} (hj : j < 2) : aI (ov TS 3 a X m) 4 (a + 2) (Int32.ofNat j) = some (X.1 2 j) := ov_aI (i := 2) (by decide) rfl rfl (by decide) (by decide) rfl (by decide) hj
theorem S_s2 {j : Nat} {x : Int32} (he : e.1 ≤ a) (hj : j < 2) : sI e (ov TS 3 a X m) 4 (a + 2) (Int32.ofNat j) x = some (ov TS 3 a (uA X 2 (wr (X.1 2) j (cvI 4 x))) m) := ov_sI (i := 2) (by decide) he rfl rfl (by decide) (by decide) rfl (by decide) hj
theorem S_n2 : aN (ov TS 3 a X m) (a + 2) = some (Int32.ofNat 2) := ov_aN (i := 2) (by decide) rfl rfl
end
end

/-! ===== letters of packed names (printed by wip/whole/let.py) ===== -/
noncomputable section
theorem sh_bv (x : Int64) {i : Nat} (hi : i < 6) : (x <<< ((Int32.ofNat 8 * Int32.ofNat i).toInt64 &&& 63)).toBitVec.toNat = (x.toBitVec.toNat * 256 ^ i) % 2 ^ 64 := by
  have : i = 0 ∨ i = 1 ∨ i = 2 ∨ i = 3 ∨ i = 4 ∨ i = 5 := by omega
  rcases this with z | z | z | z | z | z <;> subst z
  · show (x.toBitVec <<< 0).toNat = _
    rw [BitVec.toNat_shiftLeft, Nat.shiftLeft_eq]
  · show (x.toBitVec <<< 8).toNat = _
    rw [BitVec.toNat_shiftLeft, Nat.shiftLeft_eq]
  · show (x.toBitVec <<< 16).toNat = _
    rw [BitVec.toNat_shiftLeft, Nat.shiftLeft_eq]
  · show (x.toBitVec <<< 24).toNat = _
    rw [BitVec.toNat_shiftLeft, Nat.shiftLeft_eq]
  · show (x.toBitVec <<< 32).toNat = _
    rw [BitVec.toNat_shiftLeft, Nat.shiftLeft_eq]
  · show (x.toBitVec <<< 40).toNat = _
    rw [BitVec.toNat_shiftLeft, Nat.shiftLeft_eq]
theorem sr_bv (x : Int64) {i : Nat} (hi : i < 6) : (x.toUInt64 >>> ((Int32.ofNat 8 * Int32.ofNat i).toInt64.toUInt64 &&& Int64.toUInt64 63)).toBitVec.toNat = x.toBitVec.toNat / 256 ^ i := by
  have : i = 0 ∨ i = 1 ∨ i = 2 ∨ i = 3 ∨ i = 4 ∨ i = 5 := by omega
  rcases this with z | z | z | z | z | z <;> subst z
  · show (x.toBitVec >>> 0).toNat = _
    rw [BitVec.toNat_ushiftRight, Nat.shiftRight_eq_div_pow]
  · show (x.toBitVec >>> 8).toNat = _
    rw [BitVec.toNat_ushiftRight, Nat.shiftRight_eq_div_pow]
  · show (x.toBitVec >>> 16).toNat = _
    rw [BitVec.toNat_ushiftRight, Nat.shiftRight_eq_div_pow]
  · show (x.toBitVec >>> 24).toNat = _
    rw [BitVec.toNat_ushiftRight, Nat.shiftRight_eq_div_pow]
  · show (x.toBitVec >>> 32).toNat = _
    rw [BitVec.toNat_ushiftRight, Nat.shiftRight_eq_div_pow]
  · show (x.toBitVec >>> 40).toNat = _
    rw [BitVec.toNat_ushiftRight, Nat.shiftRight_eq_div_pow]
/-- one more letter -/
theorem or_bv (x a : Int64) {i v : Nat} (hi : i < 6) (hx : x.toBitVec.toNat < 256 ^ i) (ha : a.toBitVec.toNat = v) (hv : v < 128) : (x ||| (a <<< ((Int32.ofNat 8 * Int32.ofNat i).toInt64 &&& 63))).toBitVec.toNat = x.toBitVec.toNat + v * 256 ^ i ∧ x.toBitVec.toNat + v * 256 ^ i < 256 ^ (i + 1) := by
  have h1 : 256 ^ i ≤ 256 ^ 5 := Nat.pow_le_pow_right (by omega) (by omega)
  have h2 : (v : Nat) * 256 ^ i < 2 ^ 64 := by
    have := Nat.mul_lt_mul_of_lt_of_le hv h1 (by decide)
    omega
  have e2 : (256 : Nat) ^ i = 2 ^ (8 * i) := by
    rw [Nat.pow_mul]
  have hb := sh_bv a hi
  rw [ha, Nat.mod_eq_of_lt h2] at hb
  constructor
  · show (x.toBitVec ||| (a <<< ((Int32.ofNat 8 * Int32.ofNat i).toInt64 &&& 63)).toBitVec).toNat = _
    rw [BitVec.toNat_or, hb, e2, Nat.mul_comm v, Nat.or_comm, ← Nat.two_pow_add_eq_or_of_lt (by rw [← e2]; exact hx), Nat.add_comm]
  · rw [Nat.pow_succ]
    have : (v + 1) * 256 ^ i ≤ 256 * 256 ^ i := Nat.mul_le_mul_right _ (by omega)
    rw [Nat.add_mul] at this
    omega
theorem i32_l {v : Nat} (hv : v < 128) : (Int32.ofNat v).toInt64.toBitVec.toNat = v := by
  revert hv
  revert v
  decide +kernel
theorem lowB (x : UInt64) : x.toInt64.toInt32 &&& Int32.ofNat 255 = Int32.ofNat (x.toBitVec.toNat % 256) := by
  have e1 : (x.toInt64.toInt32 &&& Int32.ofNat 255).toBitVec = BitVec.ofNat 32 (x.toBitVec.toNat % 256) := by
    apply BitVec.eq_of_toNat_eq
    show ((x.toBitVec.signExtend 32) &&& (255#32)).toNat = _
    rw [BitVec.toNat_and, BitVec.signExtend_eq_setWidth_of_le _ (by omega), BitVec.toNat_setWidth, BitVec.toNat_ofNat, BitVec.toNat_ofNat]
    rw [show 255 % 2 ^ 32 = 2 ^ 8 - 1 from rfl, Nat.and_two_pow_sub_one_eq_mod]
    omega
  exact Int32.toBitVec_inj.mp e1

def pkV (h : sV) (p : Nat) : Nat → Nat
  | 0 => 0
  | n + 1 => pkV h p n + nN (h (p + n)) * 256 ^ n
theorem pk_nat {h : sV} {p : Nat} (W : WN h p) : ∀ n, n ≤ 6 → (upF (fun i (x : Int64) => x ||| ((h (p + i)).toInt64 <<< ((Int32.ofNat 8 * Int32.ofNat i).toInt64 &&& 63))) n 0).toBitVec.toNat = pkV h p n ∧ pkV h p n < 256 ^ n
  | 0, _ => ⟨rfl, by unfold pkV; decide⟩
  | n + 1, hn => by
    obtain ⟨a1, a2⟩ := pk_nat W n (by omega)
    obtain ⟨v, v1, v2, -, v4⟩ := (W.1 n (by omega)).ex
    have hv : (h (p + n)).toInt64.toBitVec.toNat = v := by rw [v1]; exact i32_l (by omega)
    have g := or_bv (upF (fun i (x : Int64) => x ||| ((h (p + i)).toInt64 <<< ((Int32.ofNat 8 * Int32.ofNat i).toInt64 &&& 63))) n 0) (h (p + n)).toInt64 (i := n) (by omega) (by rw [a1]; exact a2) hv (by omega)
    rw [a1] at g
    show (_ ||| _ : Int64).toBitVec.toNat = pkV h p n + nN (h (p + n)) * 256 ^ n ∧ pkV h p n + nN (h (p + n)) * 256 ^ n < 256 ^ (n + 1)
    rw [v2]
    exact g
theorem pk_let {h : sV} {p i : Nat} (W : WN h p) (hi : i < 6) : (((pkN h p).toUInt64 >>> ((Int32.ofNat 8 * Int32.ofNat i).toInt64.toUInt64 &&& Int64.toUInt64 63)).toInt64.toInt32) &&& (Int32.ofNat 255) = h (p + i) := by
  have a := (pk_nat W 6 (by omega)).1
  rw [lowB, sr_bv _ hi]
  unfold pkN
  rw [a]
  obtain ⟨b0, c0, d0, -, f0⟩ := (W.1 0 (by omega)).ex
  obtain ⟨b1, c1, d1, -, f1⟩ := (W.1 1 (by omega)).ex
  obtain ⟨b2, c2, d2, -, f2⟩ := (W.1 2 (by omega)).ex
  obtain ⟨b3, c3, d3, -, f3⟩ := (W.1 3 (by omega)).ex
  obtain ⟨b4, c4, d4, -, f4⟩ := (W.1 4 (by omega)).ex
  obtain ⟨b5, c5, d5, -, f5⟩ := (W.1 5 (by omega)).ex
  have e : pkV h p 6 = 0 + b0 * 256 ^ 0 + b1 * 256 ^ 1 + b2 * 256 ^ 2 + b3 * 256 ^ 3 + b4 * 256 ^ 4 + b5 * 256 ^ 5 := by
    simp only [pkV, d0, d1, d2, d3, d4, d5]
  rw [e]
  have : i = 0 ∨ i = 1 ∨ i = 2 ∨ i = 3 ∨ i = 4 ∨ i = 5 := by omega
  rcases this with z | z | z | z | z | z <;> subst z
  · rw [c0]; congr 1; omega
  · rw [c1]; congr 1; omega
  · rw [c2]; congr 1; omega
  · rw [c3]; congr 1; omega
  · rw [c4]; congr 1; omega
  · rw [c5]; congr 1; omega
section
variable {e : dEnv} {d x Y n c : Nat} {R A : bX} {h s : sV} {m : dMem}
theorem n161 {p : Nat} {y : Int32} (W : WN h p) : dN e (d + 1) 161 [.long (pkN h p), .int y] m = rI (letS h p y) m := by
  unfold letS
  cases hy : rngB 0 5 y with
  | false =>
    have q : y < Int32.ofNat 0 ∨ ¬ y < Int32.ofNat 6 := by
      unfold rngB at hy
      rw [Int32.lt_iff_toInt_lt, Int32.lt_iff_toInt_lt, nToI (by omega), nToI (by omega)]
      by_cases q1 : y.toInt < 0
      · exact Or.inl q1
      · right
        rw [decide_eq_true (by omega), Bool.true_and] at hy
        have := of_decide_eq_false hy
        omega
    refine en161 fun t ht => ?_
    obtain ⟨u, rfl⟩ := fu 9 ht rfl
    show _ = rI nM1 m
    by_cases q1 : y < Int32.ofNat 0
    · rw [q161_0, if_pos q1, q161_1]
    · rcases q with q | q
      · exact absurd q q1
      · rw [q161_0, if_neg q1, if_neg q, q161_1]
  | true =>
    have q : ∃ i, y = Int32.ofNat i ∧ i < 6 := by
      unfold rngB at hy
      simp only [Bool.and_eq_true, decide_eq_true_eq] at hy
      exact ⟨y.toInt.toNat, nOfR hy.1, by omega⟩
    obtain ⟨i, rfl, hi⟩ := q
    have g := pk_let W hi
    refine en161 fun t ht => ?_
    obtain ⟨u, rfl⟩ := fu 9 ht rfl
    show _ = rI (if h (p + nN (Int32.ofNat i)) = Int32.ofNat 0 then nM1 else h (p + nN (Int32.ofNat i))) m
    rw [nN_o (by omega), q161_0, if_neg (by rw [nLt (by omega) (by omega)]; omega), if_pos (by rw [nLt (by omega) (by omega)]; exact hi), q161_2, g]
    by_cases z : h (p + i) = Int32.ofNat 0
    · rw [if_pos z, if_pos z, q161_4]
    · rw [if_neg z, if_neg z, q161_3, q161_4]
theorem a105_1 (hR : hB TR 1 x R m) (hA : hB TA 19 (x + 26) A m) (hl : R.1 0 6 = Int32.ofNat 0) {y z : Int32} : dN e (d + 5) 105 [.ref x, .int y, .int z] m = dTh 1 m := by
  refine en105 (hR_c0 hR) fun t ht => ?_
  obtain ⟨u, rfl⟩ := fu 9 ht rfl
  rw [q105_0]; (try simp -implicitDefEqProofs (disch := omega) only [↓reduceIte, n153_1 hR hA hl, bd_s, kI_r, kV_r, kL_r, rZ_1, rZ_0, rZ_b, rI_ite, bI_ite, ite_tf, ite_ft, bI0, bI1, bf_ite, nAdd, nMul, nLt, nEq, nEqM, nMEq, nMLt, nLtM, nMLt0, if_true, if_false, Nat.reduceAdd, Nat.reduceMul, Nat.zero_add, Nat.add_zero, decide_eq_true_eq, decide_true, decide_false, Nat.reduceEqDiff, Nat.reduceLT, Nat.reduceLeDiff, eq_self, Bool.false_eq_true, Bool.true_eq_false, Bool.not_eq_false', Bool.not_eq_true', ite_not, hR_c0 hR, hR_r0_0 hR, hR_r0_1 hR, hR_r0_2 hR, hR_r0_3 hR, hR_r0_4 hR, hR_r0_5 hR, hR_g0_6 hR, hA_c0 hA, hA_r0_0 hA, hA_r0_1 hA, hA_r0_2 hA, hA_r0_3 hA, hA_r0_4 hA, hA_r0_5 hA, hA_r0_6 hA, hA_r0_7 hA, hA_r0_8 hA, hA_r0_9 hA, hA_r0_10 hA, hA_r0_11 hA, hA_g0_12 hA, hA_g0_13 hA, hA_g0_14 hA, hA_g0_15 hA, hA_g0_16 hA, hA_c1 hA, hA_r1_0 hA, hA_r1_1 hA, hA_r1_2 hA, hA_r1_3 hA, hA_g1_4 hA, hA_a2 hA, hA_n2 hA, hA_a3 hA, hA_n3 hA, hA_a4 hA, hA_n4 hA, hA_a5 hA, hA_n5 hA, hA_c6 hA, hA_r6_0 hA, hA_r6_1 hA, hA_g6_2 hA, hA_a7 hA, hA_n7 hA, hA_a8 hA, hA_n8 hA, hA_a9 hA, hA_n9 hA, hA_a10 hA, hA_n10 hA, hA_a11 hA, hA_n11 hA, hA_a12 hA, hA_n12 hA, hA_a13 hA, hA_n13 hA, hA_a14 hA, hA_n14 hA, hA_a15 hA, hA_n15 hA, hA_a16 hA, hA_n16 hA, hA_a17 hA, hA_n17 hA, hA_a18 hA, hA_n18 hA, kV_th, kI_th, Nat.not_lt_zero])
theorem a105_2 (hR : hB TR 1 x R m) (hA : hB TA 19 (x + 26) A m) (hl : R.1 0 6 = Int32.ofNat 1) (W : OKA Y A h s) {N : Nat} (hn : h 2 = Int32.ofNat N) (hm : N ≤ 8) {y z : Int32} (hx : rngB 0 ((N : Int) - 1) y = false) : dN e (d + 5) 105 [.ref x, .int y, .int z] m = dTh 2 m := by
  refine en105 (hR_c0 hR) fun t ht => ?_
  obtain ⟨u, rfl⟩ := fu 9 ht rfl
  rw [q105_0]; (try simp -implicitDefEqProofs (disch := omega) only [↓reduceIte, n153_2 hR hA hl W hn (show N ≤ 24 by omega) hx, bd_s, kI_r, kV_r, kL_r, rZ_1, rZ_0, rZ_b, rI_ite, bI_ite, ite_tf, ite_ft, bI0, bI1, bf_ite, nAdd, nMul, nLt, nEq, nEqM, nMEq, nMLt, nLtM, nMLt0, if_true, if_false, Nat.reduceAdd, Nat.reduceMul, Nat.zero_add, Nat.add_zero, decide_eq_true_eq, decide_true, decide_false, Nat.reduceEqDiff, Nat.reduceLT, Nat.reduceLeDiff, eq_self, Bool.false_eq_true, Bool.true_eq_false, Bool.not_eq_false', Bool.not_eq_true', ite_not, hR_c0 hR, hR_r0_0 hR, hR_r0_1 hR, hR_r0_2 hR, hR_r0_3 hR, hR_r0_4 hR, hR_r0_5 hR, hR_g0_6 hR, hA_c0 hA, hA_r0_0 hA, hA_r0_1 hA, hA_r0_2 hA, hA_r0_3 hA, hA_r0_4 hA, hA_r0_5 hA, hA_r0_6 hA, hA_r0_7 hA, hA_r0_8 hA, hA_r0_9 hA, hA_r0_10 hA, hA_r0_11 hA, hA_g0_12 hA, hA_g0_13 hA, hA_g0_14 hA, hA_g0_15 hA, hA_g0_16 hA, hA_c1 hA, hA_r1_0 hA, hA_r1_1 hA, hA_r1_2 hA, hA_r1_3 hA, hA_g1_4 hA, hA_a2 hA, hA_n2 hA, hA_a3 hA, hA_n3 hA, hA_a4 hA, hA_n4 hA, hA_a5 hA, hA_n5 hA, hA_c6 hA, hA_r6_0 hA, hA_r6_1 hA, hA_g6_2 hA, hA_a7 hA, hA_n7 hA, hA_a8 hA, hA_n8 hA, hA_a9 hA, hA_n9 hA, hA_a10 hA, hA_n10 hA, hA_a11 hA, hA_n11 hA, hA_a12 hA, hA_n12 hA, hA_a13 hA, hA_n13 hA, hA_a14 hA, hA_n14 hA, hA_a15 hA, hA_n15 hA, hA_a16 hA, hA_n16 hA, hA_a17 hA, hA_n17 hA, hA_a18 hA, hA_n18 hA, kV_th, kI_th, Nat.not_lt_zero])
theorem a105_0 (hR : hB TR 1 x R m) (hA : hB TA 19 (x + 26) A m) (hl : R.1 0 6 = Int32.ofNat 1) (W : OKA Y A h s) {N : Nat} (hn : h 2 = Int32.ofNat N) (hm : N ≤ 8) {k : Nat} (hk : k < N) {z : Int32} : dN e (d + 5) 105 [.ref x, .int (Int32.ofNat k), .int z] m = rI (letS h (46 + 6 * k) z) m := by
  have w := (W.2.2.2.2.2.2.1 k (by rw [hn, nN_o (by omega)]; exact hk)).2.2.2
  have r := (W.1.2.2.2.1.2.2.2.2.1 k (by rw [hn, nN_o (by omega)]; exact hk)).2.2.2
  have g := n161 (e := e) (d := d + 3) (m := m) (y := z) w
  refine en105 (hR_c0 hR) fun t ht => ?_
  obtain ⟨u, rfl⟩ := fu 9 ht rfl
  rw [q105_0]; (try simp -implicitDefEqProofs (disch := omega) only [↓reduceIte, n153_0 hR hA hl W hn (show N ≤ 24 by omega) hk, r, g, bd_s, kI_r, kV_r, kL_r, rZ_1, rZ_0, rZ_b, rI_ite, bI_ite, ite_tf, ite_ft, bI0, bI1, bf_ite, nAdd, nMul, nLt, nEq, nEqM, nMEq, nMLt, nLtM, nMLt0, if_true, if_false, Nat.reduceAdd, Nat.reduceMul, Nat.zero_add, Nat.add_zero, decide_eq_true_eq, decide_true, decide_false, Nat.reduceEqDiff, Nat.reduceLT, Nat.reduceLeDiff, eq_self, Bool.false_eq_true, Bool.true_eq_false, Bool.not_eq_false', Bool.not_eq_true', ite_not, hR_c0 hR, hR_r0_0 hR, hR_r0_1 hR, hR_r0_2 hR, hR_r0_3 hR, hR_r0_4 hR, hR_r0_5 hR, hR_g0_6 hR, hA_c0 hA, hA_r0_0 hA, hA_r0_1 hA, hA_r0_2 hA, hA_r0_3 hA, hA_r0_4 hA, hA_r0_5 hA, hA_r0_6 hA, hA_r0_7 hA, hA_r0_8 hA, hA_r0_9 hA, hA_r0_10 hA, hA_r0_11 hA, hA_g0_12 hA, hA_g0_13 hA, hA_g0_14 hA, hA_g0_15 hA, hA_g0_16 hA, hA_c1 hA, hA_r1_0 hA, hA_r1_1 hA, hA_r1_2 hA, hA_r1_3 hA, hA_g1_4 hA, hA_a2 hA, hA_n2 hA, hA_a3 hA, hA_n3 hA, hA_a4 hA, hA_n4 hA, hA_a5 hA, hA_n5 hA, hA_c6 hA, hA_r6_0 hA, hA_r6_1 hA, hA_g6_2 hA, hA_a7 hA, hA_n7 hA, hA_a8 hA, hA_n8 hA, hA_a9 hA, hA_n9 hA, hA_a10 hA, hA_n10 hA, hA_a11 hA, hA_n11 hA, hA_a12 hA, hA_n12 hA, hA_a13 hA, hA_n13 hA, hA_a14 hA, hA_n14 hA, hA_a15 hA, hA_n15 hA, hA_a16 hA, hA_n16 hA, hA_a17 hA, hA_n17 hA, hA_a18 hA, hA_n18 hA, kV_th, kI_th, Nat.not_lt_zero])
theorem a123_1 (hR : hB TR 1 x R m) (hA : hB TA 19 (x + 26) A m) (hl : R.1 0 6 = Int32.ofNat 0) {y z : Int32} : dN e (d + 5) 123 [.ref x, .int y, .int z] m = dTh 1 m := by
  refine en123 (hR_c0 hR) fun t ht => ?_
  obtain ⟨u, rfl⟩ := fu 9 ht rfl
  rw [q123_0]; (try simp -implicitDefEqProofs (disch := omega) only [↓reduceIte, n155_1 hR hA hl, bd_s, kI_r, kV_r, kL_r, rZ_1, rZ_0, rZ_b, rI_ite, bI_ite, ite_tf, ite_ft, bI0, bI1, bf_ite, nAdd, nMul, nLt, nEq, nEqM, nMEq, nMLt, nLtM, nMLt0, if_true, if_false, Nat.reduceAdd, Nat.reduceMul, Nat.zero_add, Nat.add_zero, decide_eq_true_eq, decide_true, decide_false, Nat.reduceEqDiff, Nat.reduceLT, Nat.reduceLeDiff, eq_self, Bool.false_eq_true, Bool.true_eq_false, Bool.not_eq_false', Bool.not_eq_true', ite_not, hR_c0 hR, hR_r0_0 hR, hR_r0_1 hR, hR_r0_2 hR, hR_r0_3 hR, hR_r0_4 hR, hR_r0_5 hR, hR_g0_6 hR, hA_c0 hA, hA_r0_0 hA, hA_r0_1 hA, hA_r0_2 hA, hA_r0_3 hA, hA_r0_4 hA, hA_r0_5 hA, hA_r0_6 hA, hA_r0_7 hA, hA_r0_8 hA, hA_r0_9 hA, hA_r0_10 hA, hA_r0_11 hA, hA_g0_12 hA, hA_g0_13 hA, hA_g0_14 hA, hA_g0_15 hA, hA_g0_16 hA, hA_c1 hA, hA_r1_0 hA, hA_r1_1 hA, hA_r1_2 hA, hA_r1_3 hA, hA_g1_4 hA, hA_a2 hA, hA_n2 hA, hA_a3 hA, hA_n3 hA, hA_a4 hA, hA_n4 hA, hA_a5 hA, hA_n5 hA, hA_c6 hA, hA_r6_0 hA, hA_r6_1 hA, hA_g6_2 hA, hA_a7 hA, hA_n7 hA, hA_a8 hA, hA_n8 hA, hA_a9 hA, hA_n9 hA, hA_a10 hA, hA_n10 hA, hA_a11 hA, hA_n11 hA, hA_a12 hA, hA_n12 hA, hA_a13 hA, hA_n13 hA, hA_a14 hA, hA_n14 hA, hA_a15 hA, hA_n15 hA, hA_a16 hA, hA_n16 hA, hA_a17 hA, hA_n17 hA, hA_a18 hA, hA_n18 hA, kV_th, kI_th, Nat.not_lt_zero])
theorem a123_2 (hR : hB TR 1 x R m) (hA : hB TA 19 (x + 26) A m) (hl : R.1 0 6 = Int32.ofNat 1) (W : OKA Y A h s) {N : Nat} (hn : h 3 = Int32.ofNat N) (hm : N ≤ 6) {y z : Int32} (hx : rngB 0 ((N : Int) - 1) y = false) : dN e (d + 5) 123 [.ref x, .int y, .int z] m = dTh 2 m := by
  refine en123 (hR_c0 hR) fun t ht => ?_
  obtain ⟨u, rfl⟩ := fu 9 ht rfl
  rw [q123_0]; (try simp -implicitDefEqProofs (disch := omega) only [↓reduceIte, n155_2 hR hA hl W hn (show N ≤ 24 by omega) hx, bd_s, kI_r, kV_r, kL_r, rZ_1, rZ_0, rZ_b, rI_ite, bI_ite, ite_tf, ite_ft, bI0, bI1, bf_ite, nAdd, nMul, nLt, nEq, nEqM, nMEq, nMLt, nLtM, nMLt0, if_true, if_false, Nat.reduceAdd, Nat.reduceMul, Nat.zero_add, Nat.add_zero, decide_eq_true_eq, decide_true, decide_false, Nat.reduceEqDiff, Nat.reduceLT, Nat.reduceLeDiff, eq_self, Bool.false_eq_true, Bool.true_eq_false, Bool.not_eq_false', Bool.not_eq_true', ite_not, hR_c0 hR, hR_r0_0 hR, hR_r0_1 hR, hR_r0_2 hR, hR_r0_3 hR, hR_r0_4 hR, hR_r0_5 hR, hR_g0_6 hR, hA_c0 hA, hA_r0_0 hA, hA_r0_1 hA, hA_r0_2 hA, hA_r0_3 hA, hA_r0_4 hA, hA_r0_5 hA, hA_r0_6 hA, hA_r0_7 hA, hA_r0_8 hA, hA_r0_9 hA, hA_r0_10 hA, hA_r0_11 hA, hA_g0_12 hA, hA_g0_13 hA, hA_g0_14 hA, hA_g0_15 hA, hA_g0_16 hA, hA_c1 hA, hA_r1_0 hA, hA_r1_1 hA, hA_r1_2 hA, hA_r1_3 hA, hA_g1_4 hA, hA_a2 hA, hA_n2 hA, hA_a3 hA, hA_n3 hA, hA_a4 hA, hA_n4 hA, hA_a5 hA, hA_n5 hA, hA_c6 hA, hA_r6_0 hA, hA_r6_1 hA, hA_g6_2 hA, hA_a7 hA, hA_n7 hA, hA_a8 hA, hA_n8 hA, hA_a9 hA, hA_n9 hA, hA_a10 hA, hA_n10 hA, hA_a11 hA, hA_n11 hA, hA_a12 hA, hA_n12 hA, hA_a13 hA, hA_n13 hA, hA_a14 hA, hA_n14 hA, hA_a15 hA, hA_n15 hA, hA_a16 hA, hA_n16 hA, hA_a17 hA, hA_n17 hA, hA_a18 hA, hA_n18 hA, kV_th, kI_th, Nat.not_lt_zero])
theorem a123_0 (hR : hB TR 1 x R m) (hA : hB TA 19 (x + 26) A m) (hl : R.1 0 6 = Int32.ofNat 1) (W : OKA Y A h s) {N : Nat} (hn : h 3 = Int32.ofNat N) (hm : N ≤ 6) {k : Nat} (hk : k < N) {z : Int32} : dN e (d + 5) 123 [.ref x, .int (Int32.ofNat k), .int z] m = rI (letS h (4 + 6 * k) z) m := by
  have w := (W.2.2.2.2.2.2.2 k (by rw [hn, nN_o (by omega)]; exact hk)).2
  have r := (W.1.2.2.2.1.2.2.2.2.2 k (by rw [hn, nN_o (by omega)]; exact hk)).2
  have g := n161 (e := e) (d := d + 3) (m := m) (y := z) w
  refine en123 (hR_c0 hR) fun t ht => ?_
  obtain ⟨u, rfl⟩ := fu 9 ht rfl
  rw [q123_0]; (try simp -implicitDefEqProofs (disch := omega) only [↓reduceIte, n155_0 hR hA hl W hn (show N ≤ 24 by omega) hk, r, g, bd_s, kI_r, kV_r, kL_r, rZ_1, rZ_0, rZ_b, rI_ite, bI_ite, ite_tf, ite_ft, bI0, bI1, bf_ite, nAdd, nMul, nLt, nEq, nEqM, nMEq, nMLt, nLtM, nMLt0, if_true, if_false, Nat.reduceAdd, Nat.reduceMul, Nat.zero_add, Nat.add_zero, decide_eq_true_eq, decide_true, decide_false, Nat.reduceEqDiff, Nat.reduceLT, Nat.reduceLeDiff, eq_self, Bool.false_eq_true, Bool.true_eq_false, Bool.not_eq_false', Bool.not_eq_true', ite_not, hR_c0 hR, hR_r0_0 hR, hR_r0_1 hR, hR_r0_2 hR, hR_r0_3 hR, hR_r0_4 hR, hR_r0_5 hR, hR_g0_6 hR, hA_c0 hA, hA_r0_0 hA, hA_r0_1 hA, hA_r0_2 hA, hA_r0_3 hA, hA_r0_4 hA, hA_r0_5 hA, hA_r0_6 hA, hA_r0_7 hA, hA_r0_8 hA, hA_r0_9 hA, hA_r0_10 hA, hA_r0_11 hA, hA_g0_12 hA, hA_g0_13 hA, hA_g0_14 hA, hA_g0_15 hA, hA_g0_16 hA, hA_c1 hA, hA_r1_0 hA, hA_r1_1 hA, hA_r1_2 hA, hA_r1_3 hA, hA_g1_4 hA, hA_a2 hA, hA_n2 hA, hA_a3 hA, hA_n3 hA, hA_a4 hA, hA_n4 hA, hA_a5 hA, hA_n5 hA, hA_c6 hA, hA_r6_0 hA, hA_r6_1 hA, hA_g6_2 hA, hA_a7 hA, hA_n7 hA, hA_a8 hA, hA_n8 hA, hA_a9 hA, hA_n9 hA, hA_a10 hA, hA_n10 hA, hA_a11 hA, hA_n11 hA, hA_a12 hA, hA_n12 hA, hA_a13 hA, hA_n13 hA, hA_a14 hA, hA_n14 hA, hA_a15 hA, hA_n15 hA, hA_a16 hA, hA_n16 hA, hA_a17 hA, hA_n17 hA, hA_a18 hA, hA_n18 hA, kV_th, kI_th, Nat.not_lt_zero])
end
end

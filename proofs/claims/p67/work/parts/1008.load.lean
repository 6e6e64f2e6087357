/-! ===== bytes are appended; the class loads ===== -/
noncomputable section
/-- the k-th byte of four -/
def bv (v : Int32) (k : Nat) : Nat := (v >>> (Int32.ofNat (24 - 8 * k) &&& 31)).toBitVec.toNat % 256
theorem byt (y : Int32) : y &&& Int32.ofNat 255 = Int32.ofNat (y.toBitVec.toNat % 256) := by
  apply Int32.toBitVec_inj.mp
  apply BitVec.eq_of_toNat_eq
  rw [Int32.toBitVec_and, BitVec.toNat_and]
  have h1 : (Int32.ofNat 255).toBitVec.toNat = 2 ^ 8 - 1 := by decide +kernel
  have h2 : (Int32.ofNat (y.toBitVec.toNat % 256)).toBitVec.toNat = y.toBitVec.toNat % 256 := by
    show (BitVec.ofNat 32 (y.toBitVec.toNat % 256)).toNat = _
    rw [BitVec.toNat_ofNat]
    exact Nat.mod_eq_of_lt (by have := Nat.mod_lt y.toBitVec.toNat (show 0 < 256 by omega); omega)
  rw [h1, h2, Nat.and_two_pow_sub_one_eq_mod]
theorem bv_lt (v : Int32) (k : Nat) : bv v k < 256 := Nat.mod_lt _ (by omega)
theorem sg8_b (y : Int32) : sg8 (y.toBitVec.toNat % 256) = y.toInt8.toInt32 := by
  unfold sg8
  rw [← byt, Int32.toInt8_and, show (Int32.ofNat 255).toInt8 = -1 from by decide +kernel, Int8.and_neg_one]
theorem cv8 (y : Int32) : cvI 3 (y.toInt8.toInt32) = y.toInt8.toInt32 := by
  show (y.toInt8.toInt32).toInt8.toInt32 = _
  rw [Int8.toInt8_toInt32]
section
variable {e : dEnv} {d a x : Nat} {I A : bX} {m : dMem}
theorem st48 (he : e.1 ≤ a) {v : Int32} {k h : Nat} (hk : k < 4) (hh : I.1 1 1 = Int32.ofNat h) (h6 : h < 600) {t : Nat} : runL e (dN e d) 48 (t + 1) 1 [some (.ref (a + 1)), some (.int v), some (.int (Int32.ofNat (24 - 8 * k)))] [] (ov TI 6 a I m) = runL e (dN e d) 48 t 1 [some (.ref (a + 1)), some (.int v), some (.int (Int32.ofNat (24 - 8 * k) + Int32.ofNat 4294967288))] [] (ov TI 6 a (uA (uA I 2 (wr (I.1 2) h (sg8 (bv v k)))) 1 (wr (I.1 1) 1 (Int32.ofNat (h + 1)))) m) := by
  rw [q48_1, if_neg (by rw [nLt (by omega) (by omega)]; omega), I_g1_1, hh]
  (try simp only [bd_s])
  rw [if_pos (by rw [nLt (by omega) (by omega)]; exact h6), I_r1_0]
  (try simp only [bd_s])
  (try rw [I_g1_1, hh])
  (try simp only [bd_s])
  rw [I_s2 he h6, cv8]
  (try simp only [bd_s])
  rw [I_g1_1, uA_n (by omega), hh]
  (try simp only [bd_s])
  rw [nAdd, I_p1_1 he, uA_n (by omega)]
  (try simp only [bd_s])
  unfold bv
  rw [sg8_b]
theorem n48 (he : e.1 ≤ a) {v : Int32} {h : Nat} (hh : I.1 1 1 = Int32.ofNat h) (h6 : h + 4 ≤ 600) {F : Nat → Nat} (hF : ∀ j, j < h → I.1 2 j = sg8 (F j)) (hv : ∀ k, k < 4 → F (h + k) = bv v k) : ∃ I', dN e (d + 1) 48 [.ref (a + 1), .int v] (ov TI 6 a I m) = some (.inl none, ov TI 6 a I' m) ∧ I'.1 1 1 = Int32.ofNat (h + 4) ∧ (∀ j, j < h + 4 → I'.1 2 j = sg8 (F j)) ∧ I'.1 0 = I.1 0 := by
  have step : ∀ (J : bX) (k : Nat), k < 4 → J.1 1 1 = Int32.ofNat (h + k) → (∀ j, j < h + k → J.1 2 j = sg8 (F j)) → J.1 0 = I.1 0 → (uA (uA J 2 (wr (J.1 2) (h + k) (sg8 (bv v k)))) 1 (wr (J.1 1) 1 (Int32.ofNat (h + k + 1)))).1 1 1 = Int32.ofNat (h + (k + 1)) ∧ (∀ j, j < h + (k + 1) → (uA (uA J 2 (wr (J.1 2) (h + k) (sg8 (bv v k)))) 1 (wr (J.1 1) 1 (Int32.ofNat (h + k + 1)))).1 2 j = sg8 (F j)) ∧ (uA (uA J 2 (wr (J.1 2) (h + k) (sg8 (bv v k)))) 1 (wr (J.1 1) 1 (Int32.ofNat (h + k + 1)))).1 0 = I.1 0 := by
    intro J k hk h1 h2 h3
    refine ⟨by rw [uA_s, wr_s]; rfl, fun j hj => ?_, by rw [uA_n (by omega), uA_n (by omega), h3]⟩
    rw [uA_n (by omega), uA_s]
    by_cases q : j = h + k
    · rw [q, wr_s, hv k hk]
    · rw [wr_n q]
      exact h2 j (by omega)
  obtain ⟨a1, a2, a3⟩ := step I 0 (by omega) hh hF rfl
  obtain ⟨b1, b2, b3⟩ := step _ 1 (by omega) a1 a2 a3
  obtain ⟨c1, c2, c3⟩ := step _ 2 (by omega) b1 b2 b3
  obtain ⟨d1, d2, d3⟩ := step _ 3 (by omega) c1 c2 c3
  refine ⟨_, ?_, d1, d2, d3⟩
  refine en48 I_c1 fun t ht => ?_
  obtain ⟨u, rfl⟩ := fu 9 ht rfl
  rw [q48_0]
  show runL e (dN e d) 48 (u + 7 + 1) 1 [some (.ref (a + 1)), some (.int v), some (.int (Int32.ofNat (24 - 8 * 0)))] [] (ov TI 6 a I m) = _
  rw [st48 (h := h + 0) he (by omega) hh (by omega), show Int32.ofNat (24 - 8 * 0) + Int32.ofNat 4294967288 = Int32.ofNat (24 - 8 * 1) from by decide +kernel]
  show runL e (dN e d) 48 (u + 6 + 1) 1 _ [] _ = _
  rw [st48 (h := h + 1) he (by omega) a1 (by omega), show Int32.ofNat (24 - 8 * 1) + Int32.ofNat 4294967288 = Int32.ofNat (24 - 8 * 2) from by decide +kernel]
  show runL e (dN e d) 48 (u + 5 + 1) 1 _ [] _ = _
  rw [st48 (h := h + 2) he (by omega) b1 (by omega), show Int32.ofNat (24 - 8 * 2) + Int32.ofNat 4294967288 = Int32.ofNat (24 - 8 * 3) from by decide +kernel]
  show runL e (dN e d) 48 (u + 4 + 1) 1 _ [] _ = _
  rw [st48 (h := h + 3) he (by omega) c1 (by omega)]
  show runL e (dN e d) 48 (u + 3 + 1) 1 _ [] _ = _
  rw [q48_1, if_pos (by decide +kernel), q48_2]
/-- what the bytes are after an append -/
def apB (B : Nat → Nat) (h : Nat) (g : Nat → Int32) : Nat → Nat := fun j => if j < h then B j else bv (g ((j - h) / 4)) ((j - h) % 4)
theorem apB_lt {B : Nat → Nat} {h : Nat} {g : Nat → Int32} (hB : ∀ j, B j < 256) : ∀ j, apB B h g j < 256 := by
  intro j
  unfold apB
  split
  · exact hB j
  · exact bv_lt _ _
theorem a88_f {R : bX} (hR : hB TR 1 x R m) (hI : hB TI 6 (x + 1) I m) {h : Nat} (hh : I.1 1 1 = Int32.ofNat h) (h6 : h ≤ 600) (hf : 600 < h + 20) {y1 y2 y3 y4 y5 : Int32} : dN e (d + 2) 88 [.ref x, .int y1, .int y2, .int y3, .int y4, .int y5] m = rI nM1 m := by
  refine en88 (hR_c0 hR) fun t ht => ?_
  obtain ⟨u, rfl⟩ := fu 9 ht rfl
  rw [q88_0, hR_r0_0 hR]
  (try simp only [bd_s])
  rw [hI_r0_0 hI]
  (try simp only [bd_s])
  rw [hI_g1_1 hI, hh]
  (try simp only [bd_s])
  rw [nAdd, if_pos (by rw [nLt (by omega) (by omega)]; exact hf)]
theorem a88_0 {R : bX} (he : e.1 ≤ x) (hR : hB TR 1 x R m) (hI : hB TI 6 (x + 1) I m) {h : Nat} (hh : I.1 1 1 = Int32.ofNat h) (hf : h + 20 ≤ 600) {B : Nat → Nat} (hB2 : ∀ j, j < h → I.1 2 j = sg8 (B j)) (g : Nat → Int32) : ∃ I', dN e (d + 2) 88 [.ref x, .int (g 0), .int (g 1), .int (g 2), .int (g 3), .int (g 4)] m = rI (Int32.ofNat (h + 20)) (ov TI 6 (x + 1) I' m) ∧ I'.1 1 1 = Int32.ofNat (h + 20) ∧ (∀ j, j < h + 20 → I'.1 2 j = sg8 (apB B h g j)) ∧ I'.1 0 = I.1 0 := by
  have hv : ∀ i, i < 5 → ∀ k, k < 4 → apB B h g (h + 4 * i + k) = bv (g i) k := by
    intro i hi k hk
    unfold apB
    rw [if_neg (by omega), show (h + 4 * i + k - h) / 4 = i by omega, show (h + 4 * i + k - h) % 4 = k by omega]
  have h0 : ∀ j, j < h → I.1 2 j = sg8 (apB B h g j) := by
    intro j hj
    unfold apB
    rw [if_pos hj]
    exact hB2 j hj
  obtain ⟨I1, e1, r1, s1, t1⟩ := n48 (e := e) (d := d) (a := x + 1) (I := I) (m := m) (v := g 0) (by omega) hh (by omega) h0 (fun k hk => hv 0 (by omega) k hk)
  obtain ⟨I2, e2, r2, s2, t2⟩ := n48 (e := e) (d := d) (a := x + 1) (I := I1) (m := m) (v := g 1) (by omega) r1 (by omega) s1 (fun k hk => hv 1 (by omega) k hk)
  obtain ⟨I3, e3, r3, s3, t3⟩ := n48 (e := e) (d := d) (a := x + 1) (I := I2) (m := m) (v := g 2) (by omega) r2 (by omega) s2 (fun k hk => hv 2 (by omega) k hk)
  obtain ⟨I4, e4, r4, s4, t4⟩ := n48 (e := e) (d := d) (a := x + 1) (I := I3) (m := m) (v := g 3) (by omega) r3 (by omega) s3 (fun k hk => hv 3 (by omega) k hk)
  obtain ⟨I5, e5, r5, s5, t5⟩ := n48 (e := e) (d := d) (a := x + 1) (I := I4) (m := m) (v := g 4) (by omega) r4 (by omega) s4 (fun k hk => hv 4 (by omega) k hk)
  have hm := ov_self hI
  refine ⟨I5, ?_, r5, s5, t5.trans (t4.trans (t3.trans (t2.trans t1)))⟩
  refine en88 (hR_c0 hR) fun t ht => ?_
  obtain ⟨u, rfl⟩ := fu 9 ht rfl
  rw [q88_0, hR_r0_0 hR]
  (try simp only [bd_s])
  rw [hI_r0_0 hI]
  (try simp only [bd_s])
  rw [hI_g1_1 hI, hh]
  (try simp only [bd_s])
  rw [nAdd, if_neg (by rw [nLt (by omega) (by omega)]; omega), q88_1]
  conv => lhs; rw [← hm]
  rw [e1, kV_r, e2, kV_r, e3, kV_r, e4, kV_r, e5, kV_r, I_g1_1, r5]
  rfl
end
end

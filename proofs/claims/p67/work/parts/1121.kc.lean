/-! ===== the object's calls, as the law makes them (printed by wip/p67/lw2.py) ===== -/
noncomputable section
theorem rngB_f {lo hi : Int} {y : Int32} (h : y.toInt < lo ∨ hi < y.toInt) : rngB lo hi y = false := by
  unfold rngB
  simp only [Bool.and_eq_false_iff, decide_eq_false_iff_not]
  omega
theorem rngB_t {lo hi : Int} {y : Int32} (h1 : lo ≤ y.toInt) (h2 : y.toInt ≤ hi) : rngB lo hi y = true := by
  unfold rngB
  simp only [Bool.and_eq_true, decide_eq_true_eq]
  omega
theorem OKA.bn {Y : Nat} {A : bX} {h s : sV} (Z : OKA Y A h s) : s 1 = Int32.ofNat (nbS s) ∧ nbS s ≤ 24 ∧ s 2 = Int32.ofNat (nlS s) ∧ nlS s ≤ 24 := ⟨Z.2.1.1.1, Z.2.1.1.2.2, Z.2.1.2.1.1, Z.2.1.2.1.2.2⟩
section
variable {e : dEnv} {d x Y : Nat} {h s : sV} {m : dMem} {y z u : Int32}
theorem tt_7 (Z : CLA e x Y h s m) (hx : rngB 1 50 y = false) : dN e (d + 19) 191 [.ref x, .int (Int32.ofNat 7), .int y, .int z] m = rI (Int32.ofNat 3) (mTh m) := by
  obtain ⟨R, I, H, S, Ar, n, c, K, KH, hl, KA⟩ := Z
  have hR := K.1
  have hA : hB TA 19 (x + 26) (Ar 0) m := K.2.2.2.2 0 (by omega)
  have bn := KA.bn
  exact th7 (D := d + 16) (Or.inr (Or.inr rfl)) (r139_3 (d := d + 8) hR hA hl hx)
theorem tt_8b (Z : CLA e x Y h s m) {i y : Nat} {z : Int32} (hi : i < nN (h 2)) (h8 : nN (h 2) ≤ 8) (y1 : 1800 ≤ y) (y2 : y ≤ nN (s 0)) (hY : Y ≤ 1000000) (hx : (decide (nbS s < 24) && !decide (fstS s h = nM1)) = false) : dN e (d + 19) 191 [.ref x, .int (Int32.ofNat 8), .int (Int32.ofNat i), .int (Int32.ofNat y)] m = rI (Int32.ofNat 3) (mTh m) := by
  obtain ⟨R, I, H, S, Ar, n, c, K, KH, hl, KA⟩ := Z
  have hR := K.1
  have hA : hB TA 19 (x + 26) (Ar 0) m := K.2.2.2.2 0 (by omega)
  have bn := KA.bn
  exact th8 (D := d + 16) (Or.inr (Or.inr rfl)) (r140_3b (d := d + 8) hR hA hl KA KA.2.2.2.2.1.1 h8 hi y1 y2 hx hY)
theorem tt_8 (Z : CLA e x Y h s m) {i : Nat} (hi : i < nN (h 2)) (h8 : nN (h 2) ≤ 8) (hx : rngB 1800 (s 0).toInt y = false) : dN e (d + 19) 191 [.ref x, .int (Int32.ofNat 8), .int (Int32.ofNat i), .int y] m = rI (Int32.ofNat 3) (mTh m) := by
  obtain ⟨R, I, H, S, Ar, n, c, K, KH, hl, KA⟩ := Z
  have hR := K.1
  have hA : hB TA 19 (x + 26) (Ar 0) m := K.2.2.2.2 0 (by omega)
  have bn := KA.bn
  exact th8 (D := d + 16) (Or.inr (Or.inr rfl)) (r140_3 (d := d + 8) hR hA hl KA KA.2.2.2.2.1.1 h8 hi hx)
theorem tt_8k (Z : CLA e x Y h s m) (h8 : nN (h 2) ≤ 8) (hx : rngB 0 ((nN (h 2) : Int) - 1) y = false) : dN e (d + 19) 191 [.ref x, .int (Int32.ofNat 8), .int y, .int z] m = rI (Int32.ofNat 2) (mTh m) := by
  obtain ⟨R, I, H, S, Ar, n, c, K, KH, hl, KA⟩ := Z
  have hR := K.1
  have hA : hB TA 19 (x + 26) (Ar 0) m := K.2.2.2.2 0 (by omega)
  have bn := KA.bn
  exact th8 (D := d + 16) (Or.inr (Or.inl rfl)) (r140_2 (d := d + 8) hR hA hl KA KA.2.2.2.2.1.1 h8 hx)
theorem tt_9g (Z : CLA e x Y h s m) {k i j : Nat} (hk : k < nbS s) (hi : i < nN (h 0)) (hj : j < nN (h 1)) (hg : gonB s k = true) : dN e (d + 19) 190 [.ref x, .int (Int32.ofNat 9), .int (Int32.ofNat k), .int (Int32.ofNat i), .int (Int32.ofNat j)] m = rI (Int32.ofNat 3) (mTh m) := by
  obtain ⟨R, I, H, S, Ar, n, c, K, KH, hl, KA⟩ := Z
  have hR := K.1
  have hA : hB TA 19 (x + 26) (Ar 0) m := K.2.2.2.2 0 (by omega)
  have bn := KA.bn
  exact th9' (D := d + 17) (Or.inr (Or.inr rfl)) (r141_3 (d := d + 9) hR hA hl KA bn.1 bn.2.1 hk hi hj hg)
theorem tt_9o (Z : CLA e x Y h s m) {k i j : Nat} (hk : k < nbS s) (hi : i < nN (h 0)) (hj : j < nN (h 1)) (hg : gonB s k = false) (hb : ¬ boxOnS s (Int32.ofNat (i * nN (h 1) + j)) = nM1) : dN e (d + 19) 190 [.ref x, .int (Int32.ofNat 9), .int (Int32.ofNat k), .int (Int32.ofNat i), .int (Int32.ofNat j)] m = rI (Int32.ofNat 3) (mTh m) := by
  obtain ⟨R, I, H, S, Ar, n, c, K, KH, hl, KA⟩ := Z
  have hR := K.1
  have hA : hB TA 19 (x + 26) (Ar 0) m := K.2.2.2.2 0 (by omega)
  have bn := KA.bn
  exact th9' (D := d + 17) (Or.inr (Or.inr rfl)) (r141_3b (d := d + 9) hR hA hl KA bn.1 bn.2.1 hk hi hj hg hb)
theorem tt_9s (Z : CLA e x Y h s m) {k : Nat} (hk : k < nbS s) (hx : (rngB 0 ((nN (h 0) : Int) - 1) y && rngB 0 ((nN (h 1) : Int) - 1) z) = false) : dN e (d + 19) 190 [.ref x, .int (Int32.ofNat 9), .int (Int32.ofNat k), .int y, .int z] m = rI (Int32.ofNat 2) (mTh m) := by
  obtain ⟨R, I, H, S, Ar, n, c, K, KH, hl, KA⟩ := Z
  have hR := K.1
  have hA : hB TA 19 (x + 26) (Ar 0) m := K.2.2.2.2 0 (by omega)
  have bn := KA.bn
  exact th9' (D := d + 17) (Or.inr (Or.inl rfl)) (r141_2b (d := d + 9) hR hA hl KA bn.1 bn.2.1 hk hx)
theorem tt_10g (Z : CLA e x Y h s m) {k : Nat} (hk : k < nbS s) (h1 : rngB (s 0).toInt 9999 y = true) (hg : gonB s k = true) : dN e (d + 19) 191 [.ref x, .int (Int32.ofNat 10), .int (Int32.ofNat k), .int y] m = rI (Int32.ofNat 3) (mTh m) := by
  obtain ⟨R, I, H, S, Ar, n, c, K, KH, hl, KA⟩ := Z
  have hR := K.1
  have hA : hB TA 19 (x + 26) (Ar 0) m := K.2.2.2.2 0 (by omega)
  have bn := KA.bn
  exact th10 (D := d + 16) (Or.inr (Or.inr rfl)) (r142_3b (d := d + 8) hR hA hl KA bn.1 bn.2.1 hk h1 hg)
theorem tt_10 (Z : CLA e x Y h s m) {k : Nat} (hk : k < nbS s) (hx : rngB (s 0).toInt 9999 y = false) : dN e (d + 19) 191 [.ref x, .int (Int32.ofNat 10), .int (Int32.ofNat k), .int y] m = rI (Int32.ofNat 3) (mTh m) := by
  obtain ⟨R, I, H, S, Ar, n, c, K, KH, hl, KA⟩ := Z
  have hR := K.1
  have hA : hB TA 19 (x + 26) (Ar 0) m := K.2.2.2.2 0 (by omega)
  have bn := KA.bn
  exact th10 (D := d + 16) (Or.inr (Or.inr rfl)) (r142_3 (d := d + 8) hR hA hl KA bn.1 bn.2.1 hk hx)
theorem tt_12o (Z : CLA e x Y h s m) {j k : Nat} (h6 : nN (h 3) ≤ 6) (hj : j < nN (h 3)) (hk : k < nbS s) (hx : ¬ obsS s h (Int32.ofNat j) k = Int32.ofNat 0) : dN e (d + 19) 191 [.ref x, .int (Int32.ofNat 12), .int (Int32.ofNat j), .int (Int32.ofNat k)] m = rI (Int32.ofNat 3) (mTh m) := by
  obtain ⟨R, I, H, S, Ar, n, c, K, KH, hl, KA⟩ := Z
  have hR := K.1
  have hA : hB TA 19 (x + 26) (Ar 0) m := K.2.2.2.2 0 (by omega)
  have bn := KA.bn
  exact th12 (D := d + 16) (Or.inr (Or.inr rfl)) (r143_3 (d := d + 8) hR hA hl KA KA.2.2.2.2.2.1.1 h6 hj bn.1 bn.2.1 hk hx)
theorem tt_12b (Z : CLA e x Y h s m) {j : Nat} (h6 : nN (h 3) ≤ 6) (hj : j < nN (h 3)) (hx : rngB 0 ((nbS s : Int) - 1) y = false) : dN e (d + 19) 191 [.ref x, .int (Int32.ofNat 12), .int (Int32.ofNat j), .int y] m = rI (Int32.ofNat 2) (mTh m) := by
  obtain ⟨R, I, H, S, Ar, n, c, K, KH, hl, KA⟩ := Z
  have hR := K.1
  have hA : hB TA 19 (x + 26) (Ar 0) m := K.2.2.2.2 0 (by omega)
  have bn := KA.bn
  exact th12 (D := d + 16) (Or.inr (Or.inl rfl)) (r143_2b (d := d + 8) hR hA hl KA KA.2.2.2.2.2.1.1 h6 hj bn.1 bn.2.1 hx)
theorem tt_13 (Z : CLA e x Y h s m) {k : Nat} (hk : k < nbS s) (hx : bx s k 5 = nM1) : dN e (d + 19) 191 [.ref x, .int (Int32.ofNat 13), .int (Int32.ofNat k), .int z] m = rI (Int32.ofNat 3) (mTh m) := by
  obtain ⟨R, I, H, S, Ar, n, c, K, KH, hl, KA⟩ := Z
  have hR := K.1
  have hA : hB TA 19 (x + 26) (Ar 0) m := K.2.2.2.2 0 (by omega)
  have bn := KA.bn
  exact th13 (D := d + 16) (Or.inr (Or.inr rfl)) (r144_3 (d := d + 8) hR hA hl KA bn.1 bn.2.1 hk hx)
theorem tt_14b (Z : CLA e x Y h s m) {k y : Nat} (hk : k < nbS s) (h1 : 1 ≤ y) (h2 : y ≤ 20) (hx : fnd (nlS s) (fun i => decide (s (3 + i) = Int32.ofNat k)) = none) : dN e (d + 19) 191 [.ref x, .int (Int32.ofNat 14), .int (Int32.ofNat k), .int (Int32.ofNat y)] m = rI (Int32.ofNat 3) (mTh m) := by
  obtain ⟨R, I, H, S, Ar, n, c, K, KH, hl, KA⟩ := Z
  have hR := K.1
  have hA : hB TA 19 (x + 26) (Ar 0) m := K.2.2.2.2 0 (by omega)
  have bn := KA.bn
  exact th14 (D := d + 16) (Or.inr (Or.inr rfl)) (r146_3b (d := d + 8) hR hA hl KA bn.1 bn.2.1 hk h1 h2 hx)
theorem tt_14 (Z : CLA e x Y h s m) {k : Nat} (hk : k < nbS s) (hx : rngB 1 20 y = false) : dN e (d + 19) 191 [.ref x, .int (Int32.ofNat 14), .int (Int32.ofNat k), .int y] m = rI (Int32.ofNat 3) (mTh m) := by
  obtain ⟨R, I, H, S, Ar, n, c, K, KH, hl, KA⟩ := Z
  have hR := K.1
  have hA : hB TA 19 (x + 26) (Ar 0) m := K.2.2.2.2 0 (by omega)
  have bn := KA.bn
  exact th14 (D := d + 16) (Or.inr (Or.inr rfl)) (r146_3 (d := d + 8) hR hA hl KA bn.1 bn.2.1 hk hx)
theorem tt_3 (Z : CLA e x Y h s m) (hx : rngB 0 ((nbS s : Int) - 1) y = false) : dN e (d + 19) 191 [.ref x, .int (Int32.ofNat 3), .int y, .int z] m = rI (Int32.ofNat 2) (mTh m) := by
  obtain ⟨R, I, H, S, Ar, n, c, K, KH, hl, KA⟩ := Z
  have hR := K.1
  have hA : hB TA 19 (x + 26) (Ar 0) m := K.2.2.2.2 0 (by omega)
  have bn := KA.bn
  exact th3 (D := d + 16) (Or.inr (Or.inl rfl)) (a118_2 (d := d + 11) hR hA hl KA bn.1 bn.2.1 hx)
theorem tt_2 (Z : CLA e x Y h s m) (h8 : nN (h 2) ≤ 8) (hx : rngB 0 ((nN (h 2) : Int) - 1) y = false) : dN e (d + 19) 191 [.ref x, .int (Int32.ofNat 2), .int y, .int z] m = rI (Int32.ofNat 2) (mTh m) := by
  obtain ⟨R, I, H, S, Ar, n, c, K, KH, hl, KA⟩ := Z
  have hR := K.1
  have hA : hB TA 19 (x + 26) (Ar 0) m := K.2.2.2.2 0 (by omega)
  have bn := KA.bn
  exact th2 (D := d + 16) (Or.inr (Or.inl rfl)) (a106_2 (d := d + 11) hR hA hl KA KA.2.2.2.2.1.1 (by omega) hx)
theorem tt_4 (Z : CLA e x Y h s m) (hx : rngB 0 ((nlS s : Int) - 1) y = false) : dN e (d + 19) 191 [.ref x, .int (Int32.ofNat 4), .int y, .int z] m = rI (Int32.ofNat 2) (mTh m) := by
  obtain ⟨R, I, H, S, Ar, n, c, K, KH, hl, KA⟩ := Z
  have hR := K.1
  have hA : hB TA 19 (x + 26) (Ar 0) m := K.2.2.2.2 0 (by omega)
  have bn := KA.bn
  exact th4 (D := d + 16) (Or.inr (Or.inl rfl)) (a122_2 (d := d + 14) hR hA hl KA bn.2.2.1 bn.2.2.2 hx)
theorem tt_5 (Z : CLA e x Y h s m) (h6 : nN (h 3) ≤ 6) (hx : rngB 0 ((nN (h 3) : Int) - 1) y = false) : dN e (d + 19) 191 [.ref x, .int (Int32.ofNat 5), .int y, .int z] m = rI (Int32.ofNat 2) (mTh m) := by
  obtain ⟨R, I, H, S, Ar, n, c, K, KH, hl, KA⟩ := Z
  have hR := K.1
  have hA : hB TA 19 (x + 26) (Ar 0) m := K.2.2.2.2 0 (by omega)
  have bn := KA.bn
  exact th5 (D := d + 16) (Or.inr (Or.inl rfl)) (a125_2 (d := d + 11) hR hA hl KA KA.2.2.2.2.2.1.1 (by omega) hx)
theorem tt_1 (Z : CLA e x Y h s m) (hx : (rngB 0 ((nN (h 0) : Int) - 1) y && rngB 0 ((nN (h 1) : Int) - 1) z) = false) : dN e (d + 19) 191 [.ref x, .int (Int32.ofNat 1), .int y, .int z] m = rI (Int32.ofNat 2) (mTh m) := by
  obtain ⟨R, I, H, S, Ar, n, c, K, KH, hl, KA⟩ := Z
  have hR := K.1
  have hA : hB TA 19 (x + 26) (Ar 0) m := K.2.2.2.2 0 (by omega)
  have bn := KA.bn
  exact th1 (D := d + 16) (Or.inr (Or.inl rfl)) (a101_2 (d := d + 14) hR hA hl KA hx)
theorem tt_20 (Z : CLA e x Y h s m) (hx : rngB 0 ((nN (h 0) : Int) - 1) y = false) : dN e (d + 19) 191 [.ref x, .int (Int32.ofNat 20), .int y, .int z] m = rI (Int32.ofNat 2) (mTh m) := by
  obtain ⟨R, I, H, S, Ar, n, c, K, KH, hl, KA⟩ := Z
  have hR := K.1
  have hA : hB TA 19 (x + 26) (Ar 0) m := K.2.2.2.2 0 (by omega)
  have bn := KA.bn
  exact th20 (D := d + 16) (Or.inr (Or.inl rfl)) (a136_2 (d := d + 8) hR hA hl KA hx)
theorem c139 (he : e.1 ≤ x) (Z : CLA e x Y h s m) {k : Nat} (h1 : 1 ≤ k) (h2 : k ≤ 50) (hY : Y + 100 ≤ 1000000) : ∃ m2, dN e (d + 19) 139 [.ref x, .int (Int32.ofNat k)] m = rI (Int32.ofNat (lntN (yrsS h k s))) m2 ∧ CLA e x (Y + k) h (yrsS h k s) m2 ∧ frm x m m2 := by
  obtain ⟨R, I, H, S, Ar, n, c, K, KH, hl, KA⟩ := Z
  have hR := K.1
  have hA : hB TA 19 (x + 26) (Ar 0) m := K.2.2.2.2 0 (by omega)
  have bn := KA.bn
  obtain ⟨m2, g, Q⟩ := b139_0 (d := d + 11) K KH he hl KA h1 h2 hY
  obtain ⟨Z2, F⟩ := CLA.of (e := e) KH hl Q
  exact ⟨m2, g, Z2, F⟩
theorem c140 (he : e.1 ≤ x) (Z : CLA e x Y h s m) {i y q : Nat} (h8 : nN (h 2) ≤ 8) (hi : i < nN (h 2)) (hY : Y ≤ 1000000) (hy : 1800 ≤ y) (hy2 : y ≤ nN (s 0)) (hb : nbS s < 24) (hf : fstS s h = Int32.ofNat q) (hq : q < mkN h) (hq2 : q ≤ 47) : ∃ m2, dN e (d + 19) 140 [.ref x, .int (Int32.ofNat i), .int (Int32.ofNat y)] m = rI (Int32.ofNat (nbS s)) m2 ∧ CLA e x Y h (newS s (Int32.ofNat i) (Int32.ofNat y) (Int32.ofNat q)) m2 ∧ frm x m m2 := by
  obtain ⟨R, I, H, S, Ar, n, c, K, KH, hl, KA⟩ := Z
  have hR := K.1
  have hA : hB TA 19 (x + 26) (Ar 0) m := K.2.2.2.2 0 (by omega)
  have bn := KA.bn
  obtain ⟨m2, g, Q⟩ := b140_0 (d := d + 11) K KH he hl KA KA.2.2.2.2.1.1 h8 hi hY hy hy2 hb hf hq hq2
  obtain ⟨Z2, F⟩ := CLA.of (e := e) KH hl Q
  exact ⟨m2, g, Z2, F⟩
theorem c141 (he : e.1 ≤ x) (Z : CLA e x Y h s m) {k i j : Nat} (hk : k < nbS s) (hi : i < nN (h 0)) (hj : j < nN (h 1)) (hg : gonB s k = false) (hb : boxOnS s (Int32.ofNat (i * nN (h 1) + j)) = nM1) : ∃ m2, dN e (d + 19) 141 [.ref x, .int (Int32.ofNat k), .int (Int32.ofNat i), .int (Int32.ofNat j)] m = rI (bx s k 4) m2 ∧ CLA e x Y h (lay s k 4 (Int32.ofNat (i * nN (h 1) + j))) m2 ∧ frm x m m2 := by
  obtain ⟨R, I, H, S, Ar, n, c, K, KH, hl, KA⟩ := Z
  have hR := K.1
  have hA : hB TA 19 (x + 26) (Ar 0) m := K.2.2.2.2 0 (by omega)
  have bn := KA.bn
  obtain ⟨m2, g, Q⟩ := b141_0 (d := d + 11) K KH he hl KA bn.1 bn.2.1 hk hi hj hg hb
  obtain ⟨Z2, F⟩ := CLA.of (e := e) KH hl Q
  exact ⟨m2, g, Z2, F⟩
theorem c142 (he : e.1 ≤ x) (Z : CLA e x Y h s m) {k : Nat} (hk : k < nbS s) (h1 : rngB (s 0).toInt 9999 y = true) (hg : gonB s k = false) : ∃ m2, dN e (d + 19) 142 [.ref x, .int (Int32.ofNat k), .int y] m = rI (bx s k 3) m2 ∧ CLA e x Y h (lay s k 3 y) m2 ∧ frm x m m2 := by
  obtain ⟨R, I, H, S, Ar, n, c, K, KH, hl, KA⟩ := Z
  have hR := K.1
  have hA : hB TA 19 (x + 26) (Ar 0) m := K.2.2.2.2 0 (by omega)
  have bn := KA.bn
  obtain ⟨m2, g, Q⟩ := b142_0 (d := d + 11) K KH he hl KA bn.1 bn.2.1 hk h1 hg
  obtain ⟨Z2, F⟩ := CLA.of (e := e) KH hl Q
  exact ⟨m2, g, Z2, F⟩
theorem c143 (he : e.1 ≤ x) (Z : CLA e x Y h s m) {j k : Nat} (h6 : nN (h 3) ≤ 6) (hj : j < nN (h 3)) (hk : k < nbS s) (ho : obsS s h (Int32.ofNat j) k = Int32.ofNat 0) : ∃ m2, dN e (d + 19) 143 [.ref x, .int (Int32.ofNat j), .int (Int32.ofNat k)] m = rI (bI (reqB s h (Int32.ofNat j) k)) m2 ∧ CLA e x Y h (reqS s h (Int32.ofNat j) k) m2 ∧ frm x m m2 := by
  obtain ⟨R, I, H, S, Ar, n, c, K, KH, hl, KA⟩ := Z
  have hR := K.1
  have hA : hB TA 19 (x + 26) (Ar 0) m := K.2.2.2.2 0 (by omega)
  have bn := KA.bn
  obtain ⟨m2, g, Q⟩ := b143_0 (d := d + 11) K KH he hl KA bn.1 bn.2.1 hk KA.2.2.2.2.2.1.1 h6 hj ho
  obtain ⟨Z2, F⟩ := CLA.of (e := e) KH hl Q
  exact ⟨m2, g, Z2, F⟩
theorem c144 (he : e.1 ≤ x) (Z : CLA e x Y h s m) {k : Nat} (hk : k < nbS s) (h5 : ¬ bx s k 5 = nM1) : ∃ m2, dN e (d + 19) 144 [.ref x, .int (Int32.ofNat k)] m = rI (bx (gbkS s h k) k 5) m2 ∧ CLA e x Y h (gbkS s h k) m2 ∧ frm x m m2 := by
  obtain ⟨R, I, H, S, Ar, n, c, K, KH, hl, KA⟩ := Z
  have hR := K.1
  have hA : hB TA 19 (x + 26) (Ar 0) m := K.2.2.2.2 0 (by omega)
  have bn := KA.bn
  obtain ⟨m2, g, Q⟩ := b144_0 (d := d + 11) K KH he hl KA bn.1 bn.2.1 hk h5
  obtain ⟨Z2, F⟩ := CLA.of (e := e) KH hl Q
  exact ⟨m2, g, Z2, F⟩
theorem c145 (he : e.1 ≤ x) (Z : CLA e x Y h s m)  : ∃ m2, dN e (d + 19) 145 [.ref x] m = rI (listsS s h 2) m2 ∧ CLA e x Y h (listsS s h) m2 ∧ frm x m m2 := by
  obtain ⟨R, I, H, S, Ar, n, c, K, KH, hl, KA⟩ := Z
  have hR := K.1
  have hA : hB TA 19 (x + 26) (Ar 0) m := K.2.2.2.2 0 (by omega)
  have bn := KA.bn
  obtain ⟨m2, g, Q⟩ := b145_0 (d := d + 11) K KH he hl KA
  obtain ⟨Z2, F⟩ := CLA.of (e := e) KH hl Q
  exact ⟨m2, g, Z2, F⟩
theorem c146 (he : e.1 ≤ x) (Z : CLA e x Y h s m) {k y p : Nat} (hk : k < nbS s) (h1 : 1 ≤ y) (h20 : y ≤ 20) (hY : Y ≤ 1000000) (hp : fnd (nlS s) (fun i => decide (s (3 + i) = Int32.ofNat k)) = some p) : ∃ m2, dN e (d + 19) 146 [.ref x, .int (Int32.ofNat k), .int (Int32.ofNat y)] m = rI (dueS (stkS s k (Int32.ofNat y)) h k) m2 ∧ CLA e x Y h (stkS s k (Int32.ofNat y)) m2 ∧ frm x m m2 := by
  obtain ⟨R, I, H, S, Ar, n, c, K, KH, hl, KA⟩ := Z
  have hR := K.1
  have hA : hB TA 19 (x + 26) (Ar 0) m := K.2.2.2.2 0 (by omega)
  have bn := KA.bn
  obtain ⟨m2, g, Q⟩ := b146_0 (d := d + 11) K KH he hl KA bn.1 bn.2.1 hk h1 h20 hY hp
  obtain ⟨Z2, F⟩ := CLA.of (e := e) KH hl Q
  exact ⟨m2, g, Z2, F⟩
theorem c147 (he : e.1 ≤ x) (Z : CLA e x Y h s m)  : ∃ m2, dN e (d + 19) 147 [.ref x] m = rI (Int32.ofNat (aprN s h)) m2 ∧ CLA e x Y h (aprS s h) m2 ∧ frm x m m2 := by
  obtain ⟨R, I, H, S, Ar, n, c, K, KH, hl, KA⟩ := Z
  have hR := K.1
  have hA : hB TA 19 (x + 26) (Ar 0) m := K.2.2.2.2 0 (by omega)
  have bn := KA.bn
  obtain ⟨m2, g, Q⟩ := b147_0 (d := d + 11) K KH he hl KA
  obtain ⟨Z2, F⟩ := CLA.of (e := e) KH hl Q
  exact ⟨m2, g, Z2, F⟩
end
end

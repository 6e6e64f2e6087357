/-! ===== one act whole; what the object answers is what the World holds (printed by wip/p67/lw5.py) ===== -/
noncomputable section
theorem mMax_0 {n : Nat} (h : n ≤ 1000) : mMax (Int32.ofNat 0) (Int32.ofNat n - Int32.ofNat 1) = Int32.ofNat (n - 1) := by
  unfold mMax
  by_cases q : n = 0
  · subst q
    decide +kernel
  · rw [nSub (by omega)]
    by_cases q2 : 0 < n - 1
    · rw [if_pos (by rw [nLt (by omega) (by omega)]; exact q2)]
    · rw [if_neg (by rw [nLt (by omega) (by omega)]; exact q2), show n - 1 = 0 by omega]
section
variable {e : dEnv} {d x Y : Nat} {h s : sV} {m : dMem}
theorem cq93 (Z : CLA e x Y h s m) : dN e (d + 19) 93 [.ref x] m = rI (s 0) m := by
  obtain ⟨R, I, H, S, Ar, n, c, K, KH, hl, KA⟩ := Z
  have hR := K.1
  have hA : hB TA 19 (x + 26) (Ar 0) m := K.2.2.2.2 0 (by omega)
  have bn := KA.bn
  exact a93_0 (d := d + 14) hR hA hl KA
theorem cq94 (Z : CLA e x Y h s m) : dN e (d + 19) 94 [.ref x] m = rI (h 2) m := by
  obtain ⟨R, I, H, S, Ar, n, c, K, KH, hl, KA⟩ := Z
  have hR := K.1
  have hA : hB TA 19 (x + 26) (Ar 0) m := K.2.2.2.2 0 (by omega)
  have bn := KA.bn
  exact a94_0 (d := d + 14) hR hA hl KA
theorem cq95 (Z : CLA e x Y h s m) : dN e (d + 19) 95 [.ref x] m = rI (s 1) m := by
  obtain ⟨R, I, H, S, Ar, n, c, K, KH, hl, KA⟩ := Z
  have hR := K.1
  have hA : hB TA 19 (x + 26) (Ar 0) m := K.2.2.2.2 0 (by omega)
  have bn := KA.bn
  exact a95_0 (d := d + 14) hR hA hl KA
theorem cq96 (Z : CLA e x Y h s m) : dN e (d + 19) 96 [.ref x] m = rI (h 3) m := by
  obtain ⟨R, I, H, S, Ar, n, c, K, KH, hl, KA⟩ := Z
  have hR := K.1
  have hA : hB TA 19 (x + 26) (Ar 0) m := K.2.2.2.2 0 (by omega)
  have bn := KA.bn
  exact a96_0 (d := d + 14) hR hA hl KA
theorem cq97 (Z : CLA e x Y h s m) : dN e (d + 19) 97 [.ref x] m = rI (h 0) m := by
  obtain ⟨R, I, H, S, Ar, n, c, K, KH, hl, KA⟩ := Z
  have hR := K.1
  have hA : hB TA 19 (x + 26) (Ar 0) m := K.2.2.2.2 0 (by omega)
  have bn := KA.bn
  exact a97_0 (d := d + 14) hR hA hl KA
theorem cq98 (Z : CLA e x Y h s m) : dN e (d + 19) 98 [.ref x] m = rI (h 1) m := by
  obtain ⟨R, I, H, S, Ar, n, c, K, KH, hl, KA⟩ := Z
  have hR := K.1
  have hA : hB TA 19 (x + 26) (Ar 0) m := K.2.2.2.2 0 (by omega)
  have bn := KA.bn
  exact a98_0 (d := d + 14) hR hA hl KA
theorem cq99 (Z : CLA e x Y h s m) : dN e (d + 19) 99 [.ref x] m = rI (Int32.ofNat (freS s h)) m := by
  obtain ⟨R, I, H, S, Ar, n, c, K, KH, hl, KA⟩ := Z
  have hR := K.1
  have hA : hB TA 19 (x + 26) (Ar 0) m := K.2.2.2.2 0 (by omega)
  have bn := KA.bn
  exact a99_0 (d := d + 14) hR hA hl KA
theorem cq100 (Z : CLA e x Y h s m) : dN e (d + 19) 100 [.ref x] m = rI (fstS s h) m := by
  obtain ⟨R, I, H, S, Ar, n, c, K, KH, hl, KA⟩ := Z
  have hR := K.1
  have hA : hB TA 19 (x + 26) (Ar 0) m := K.2.2.2.2 0 (by omega)
  have bn := KA.bn
  exact a100_0 (d := d + 14) hR hA hl KA
theorem cq102 (Z : CLA e x Y h s m) : dN e (d + 19) 102 [.ref x] m = rI (gonN s) m := by
  obtain ⟨R, I, H, S, Ar, n, c, K, KH, hl, KA⟩ := Z
  have hR := K.1
  have hA : hB TA 19 (x + 26) (Ar 0) m := K.2.2.2.2 0 (by omega)
  have bn := KA.bn
  exact a102_0 (d := d + 14) hR hA hl KA
theorem cq103 (Z : CLA e x Y h s m) : dN e (d + 19) 103 [.ref x] m = rI (Int32.ofNat (lntN s)) m := by
  obtain ⟨R, I, H, S, Ar, n, c, K, KH, hl, KA⟩ := Z
  have hR := K.1
  have hA : hB TA 19 (x + 26) (Ar 0) m := K.2.2.2.2 0 (by omega)
  have bn := KA.bn
  exact a103_0 (d := d + 14) hR hA hl KA
theorem cq104 (Z : CLA e x Y h s m) : dN e (d + 19) 104 [.ref x] m = rI (faR s h (nN (h 3))) m := by
  obtain ⟨R, I, H, S, Ar, n, c, K, KH, hl, KA⟩ := Z
  have hR := K.1
  have hA : hB TA 19 (x + 26) (Ar 0) m := K.2.2.2.2 0 (by omega)
  have bn := KA.bn
  exact a104_0 (d := d + 14) hR hA hl KA
theorem cq121 (Z : CLA e x Y h s m) : dN e (d + 19) 121 [.ref x] m = rI (s 2) m := by
  obtain ⟨R, I, H, S, Ar, n, c, K, KH, hl, KA⟩ := Z
  have hR := K.1
  have hA : hB TA 19 (x + 26) (Ar 0) m := K.2.2.2.2 0 (by omega)
  have bn := KA.bn
  exact a121_0 (d := d + 14) hR hA hl KA
theorem cq132 (Z : CLA e x Y h s m) : dN e (d + 19) 132 [.ref x] m = rI (oI (ndF s h (nbS s))) m := by
  obtain ⟨R, I, H, S, Ar, n, c, K, KH, hl, KA⟩ := Z
  have hR := K.1
  have hA : hB TA 19 (x + 26) (Ar 0) m := K.2.2.2.2 0 (by omega)
  have bn := KA.bn
  exact a132_0 (d := d + 14) hR hA hl KA
theorem cq109 (Z : CLA e x Y h s m) {k : Nat} (hk : k < nbS s) : dN e (d + 19) 109 [.ref x, .int (Int32.ofNat k)] m = rI (bx s k 0) m := by
  obtain ⟨R, I, H, S, Ar, n, c, K, KH, hl, KA⟩ := Z
  have hR := K.1
  have hA : hB TA 19 (x + 26) (Ar 0) m := K.2.2.2.2 0 (by omega)
  have bn := KA.bn
  exact a109_0 (d := d + 14) hR hA hl KA bn.1 bn.2.1 hk
theorem cq110 (Z : CLA e x Y h s m) {k : Nat} (hk : k < nbS s) : dN e (d + 19) 110 [.ref x, .int (Int32.ofNat k)] m = rI (bx s k 1) m := by
  obtain ⟨R, I, H, S, Ar, n, c, K, KH, hl, KA⟩ := Z
  have hR := K.1
  have hA : hB TA 19 (x + 26) (Ar 0) m := K.2.2.2.2 0 (by omega)
  have bn := KA.bn
  exact a110_0 (d := d + 14) hR hA hl KA bn.1 bn.2.1 hk
theorem cq111 (Z : CLA e x Y h s m) {k : Nat} (hk : k < nbS s) : dN e (d + 19) 111 [.ref x, .int (Int32.ofNat k)] m = rI (if gonB s k = true then nM1 else Int32.ofNat (nN (bx s k 4) / nN (h 1))) m := by
  obtain ⟨R, I, H, S, Ar, n, c, K, KH, hl, KA⟩ := Z
  have hR := K.1
  have hA : hB TA 19 (x + 26) (Ar 0) m := K.2.2.2.2 0 (by omega)
  have bn := KA.bn
  exact a111_0 (d := d + 14) hR hA hl KA bn.1 bn.2.1 hk
theorem cq112 (Z : CLA e x Y h s m) {k : Nat} (hk : k < nbS s) : dN e (d + 19) 112 [.ref x, .int (Int32.ofNat k)] m = rI (if gonB s k = true then nM1 else Int32.ofNat (nN (bx s k 4) % nN (h 1))) m := by
  obtain ⟨R, I, H, S, Ar, n, c, K, KH, hl, KA⟩ := Z
  have hR := K.1
  have hA : hB TA 19 (x + 26) (Ar 0) m := K.2.2.2.2 0 (by omega)
  have bn := KA.bn
  exact a112_0 (d := d + 14) hR hA hl KA bn.1 bn.2.1 hk
theorem cq113 (Z : CLA e x Y h s m) {k : Nat} (hk : k < nbS s) : dN e (d + 19) 113 [.ref x, .int (Int32.ofNat k)] m = rI (bI (gonB s k)) m := by
  obtain ⟨R, I, H, S, Ar, n, c, K, KH, hl, KA⟩ := Z
  have hR := K.1
  have hA : hB TA 19 (x + 26) (Ar 0) m := K.2.2.2.2 0 (by omega)
  have bn := KA.bn
  exact a113_0 (d := d + 14) hR hA hl KA bn.1 bn.2.1 hk
theorem cq114 (Z : CLA e x Y h s m) {k : Nat} (hk : k < nbS s) : dN e (d + 19) 114 [.ref x, .int (Int32.ofNat k)] m = rI (bI (selB s k)) m := by
  obtain ⟨R, I, H, S, Ar, n, c, K, KH, hl, KA⟩ := Z
  have hR := K.1
  have hA : hB TA 19 (x + 26) (Ar 0) m := K.2.2.2.2 0 (by omega)
  have bn := KA.bn
  exact a114_0 (d := d + 14) hR hA hl KA bn.1 bn.2.1 hk
theorem cq115 (Z : CLA e x Y h s m) {k : Nat} (hk : k < nbS s) : dN e (d + 19) 115 [.ref x, .int (Int32.ofNat k)] m = rI (bx s k 3) m := by
  obtain ⟨R, I, H, S, Ar, n, c, K, KH, hl, KA⟩ := Z
  have hR := K.1
  have hA : hB TA 19 (x + 26) (Ar 0) m := K.2.2.2.2 0 (by omega)
  have bn := KA.bn
  exact a115_0 (d := d + 14) hR hA hl KA bn.1 bn.2.1 hk
theorem cq116 (Z : CLA e x Y h s m) {k : Nat} (hk : k < nbS s) : dN e (d + 19) 116 [.ref x, .int (Int32.ofNat k)] m = rI (bx s k 5) m := by
  obtain ⟨R, I, H, S, Ar, n, c, K, KH, hl, KA⟩ := Z
  have hR := K.1
  have hA : hB TA 19 (x + 26) (Ar 0) m := K.2.2.2.2 0 (by omega)
  have bn := KA.bn
  exact a116_0 (d := d + 14) hR hA hl KA bn.1 bn.2.1 hk
theorem cq117 (Z : CLA e x Y h s m) {k : Nat} (hk : k < nbS s) : dN e (d + 19) 117 [.ref x, .int (Int32.ofNat k)] m = rI (if bx s k 5 = nM1 then nM1 else bx s k 6) m := by
  obtain ⟨R, I, H, S, Ar, n, c, K, KH, hl, KA⟩ := Z
  have hR := K.1
  have hA : hB TA 19 (x + 26) (Ar 0) m := K.2.2.2.2 0 (by omega)
  have bn := KA.bn
  exact a117_0 (d := d + 14) hR hA hl KA bn.1 bn.2.1 hk
theorem cq118 (Z : CLA e x Y h s m) {k : Nat} (hk : k < nbS s) : dN e (d + 19) 118 [.ref x, .int (Int32.ofNat k)] m = rI (dueS s h k) m := by
  obtain ⟨R, I, H, S, Ar, n, c, K, KH, hl, KA⟩ := Z
  have hR := K.1
  have hA : hB TA 19 (x + 26) (Ar 0) m := K.2.2.2.2 0 (by omega)
  have bn := KA.bn
  exact a118_0 (d := d + 14) hR hA hl KA bn.1 bn.2.1 hk
theorem cq119 (Z : CLA e x Y h s m) {k : Nat} (hk : k < nbS s) : dN e (d + 19) 119 [.ref x, .int (Int32.ofNat k)] m = rI (bx s k 2) m := by
  obtain ⟨R, I, H, S, Ar, n, c, K, KH, hl, KA⟩ := Z
  have hR := K.1
  have hA : hB TA 19 (x + 26) (Ar 0) m := K.2.2.2.2 0 (by omega)
  have bn := KA.bn
  exact a119_0 (d := d + 14) hR hA hl KA bn.1 bn.2.1 hk
theorem cq120 (Z : CLA e x Y h s m) {k : Nat} (hk : k < nbS s) : dN e (d + 19) 120 [.ref x, .int (Int32.ofNat k)] m = rI (hinS s h k) m := by
  obtain ⟨R, I, H, S, Ar, n, c, K, KH, hl, KA⟩ := Z
  have hR := K.1
  have hA : hB TA 19 (x + 26) (Ar 0) m := K.2.2.2.2 0 (by omega)
  have bn := KA.bn
  exact a120_0 (d := d + 14) hR hA hl KA bn.1 bn.2.1 hk
theorem cq127 (Z : CLA e x Y h s m) {k : Nat} (hk : k < nbS s) : dN e (d + 19) 127 [.ref x, .int (Int32.ofNat k)] m = rI (bx s k 8) m := by
  obtain ⟨R, I, H, S, Ar, n, c, K, KH, hl, KA⟩ := Z
  have hR := K.1
  have hA : hB TA 19 (x + 26) (Ar 0) m := K.2.2.2.2 0 (by omega)
  have bn := KA.bn
  exact a127_0 (d := d + 14) hR hA hl KA bn.1 bn.2.1 hk
theorem cq128 (Z : CLA e x Y h s m) {k : Nat} (hk : k < nbS s) : dN e (d + 19) 128 [.ref x, .int (Int32.ofNat k)] m = rI (if bx s k 8 = Int32.ofNat 0 then nM1 else bx s k 9) m := by
  obtain ⟨R, I, H, S, Ar, n, c, K, KH, hl, KA⟩ := Z
  have hR := K.1
  have hA : hB TA 19 (x + 26) (Ar 0) m := K.2.2.2.2 0 (by omega)
  have bn := KA.bn
  exact a128_0 (d := d + 14) hR hA hl KA bn.1 bn.2.1 hk
theorem cq122 (Z : CLA e x Y h s m) {k : Nat} (hk : k < nlS s) : dN e (d + 19) 122 [.ref x, .int (Int32.ofNat k)] m = rI (s (3 + k)) m := by
  obtain ⟨R, I, H, S, Ar, n, c, K, KH, hl, KA⟩ := Z
  have hR := K.1
  have hA : hB TA 19 (x + 26) (Ar 0) m := K.2.2.2.2 0 (by omega)
  have bn := KA.bn
  exact a122_0 (d := d + 17) hR hA hl KA bn.2.2.1 bn.2.2.2 hk
theorem cq101 (Z : CLA e x Y h s m) {i j : Nat} (hi : i < nN (h 0)) (hj : j < nN (h 1)) : dN e (d + 19) 101 [.ref x, .int (Int32.ofNat i), .int (Int32.ofNat j)] m = rI (boxOnS s (Int32.ofNat (i * nN (h 1) + j))) m := by
  obtain ⟨R, I, H, S, Ar, n, c, K, KH, hl, KA⟩ := Z
  have hR := K.1
  have hA : hB TA 19 (x + 26) (Ar 0) m := K.2.2.2.2 0 (by omega)
  have bn := KA.bn
  exact a101_0 (d := d + 17) hR hA hl KA hi hj
theorem cq106 (Z : CLA e x Y h s m) {k : Nat} (h8 : nN (h 2) ≤ 8) (hk : k < nN (h 2)) : dN e (d + 19) 106 [.ref x, .int (Int32.ofNat k)] m = rI (h (94 + k)) m := by
  obtain ⟨R, I, H, S, Ar, n, c, K, KH, hl, KA⟩ := Z
  have hR := K.1
  have hA : hB TA 19 (x + 26) (Ar 0) m := K.2.2.2.2 0 (by omega)
  have bn := KA.bn
  exact a106_0 (d := d + 14) hR hA hl KA KA.2.2.2.2.1.1 (by omega) hk
theorem cq107 (Z : CLA e x Y h s m) {k : Nat} (h8 : nN (h 2) ≤ 8) (hk : k < nN (h 2)) : dN e (d + 19) 107 [.ref x, .int (Int32.ofNat k)] m = rI (h (102 + k)) m := by
  obtain ⟨R, I, H, S, Ar, n, c, K, KH, hl, KA⟩ := Z
  have hR := K.1
  have hA : hB TA 19 (x + 26) (Ar 0) m := K.2.2.2.2 0 (by omega)
  have bn := KA.bn
  exact a107_0 (d := d + 14) hR hA hl KA KA.2.2.2.2.1.1 (by omega) hk
theorem cq108 (Z : CLA e x Y h s m) {k : Nat} (h8 : nN (h 2) ≤ 8) (hk : k < nN (h 2)) : dN e (d + 19) 108 [.ref x, .int (Int32.ofNat k)] m = rI (bI (decide (h (110 + k) = Int32.ofNat 1))) m := by
  obtain ⟨R, I, H, S, Ar, n, c, K, KH, hl, KA⟩ := Z
  have hR := K.1
  have hA : hB TA 19 (x + 26) (Ar 0) m := K.2.2.2.2 0 (by omega)
  have bn := KA.bn
  exact a108_0 (d := d + 14) hR hA hl KA KA.2.2.2.2.1.1 (by omega) hk
theorem cq105 (Z : CLA e x Y h s m) {k : Nat} {z : Int32} (h8 : nN (h 2) ≤ 8) (hk : k < nN (h 2)) : dN e (d + 19) 105 [.ref x, .int (Int32.ofNat k), .int z] m = rI (letS h (46 + 6 * k) z) m := by
  obtain ⟨R, I, H, S, Ar, n, c, K, KH, hl, KA⟩ := Z
  have hR := K.1
  have hA : hB TA 19 (x + 26) (Ar 0) m := K.2.2.2.2 0 (by omega)
  have bn := KA.bn
  exact a105_0 (d := d + 14) hR hA hl KA KA.2.2.2.2.1.1 h8 hk
theorem cq124 (Z : CLA e x Y h s m) {k : Nat} (h6 : nN (h 3) ≤ 6) (hk : k < nN (h 3)) : dN e (d + 19) 124 [.ref x, .int (Int32.ofNat k)] m = rI (h (40 + k)) m := by
  obtain ⟨R, I, H, S, Ar, n, c, K, KH, hl, KA⟩ := Z
  have hR := K.1
  have hA : hB TA 19 (x + 26) (Ar 0) m := K.2.2.2.2 0 (by omega)
  have bn := KA.bn
  exact a124_0 (d := d + 14) hR hA hl KA KA.2.2.2.2.2.1.1 (by omega) hk
theorem cq125 (Z : CLA e x Y h s m) {k : Nat} (h6 : nN (h 3) ≤ 6) (hk : k < nN (h 3)) : dN e (d + 19) 125 [.ref x, .int (Int32.ofNat k)] m = rI (Int32.ofNat (lonN s (Int32.ofNat k))) m := by
  obtain ⟨R, I, H, S, Ar, n, c, K, KH, hl, KA⟩ := Z
  have hR := K.1
  have hA : hB TA 19 (x + 26) (Ar 0) m := K.2.2.2.2 0 (by omega)
  have bn := KA.bn
  exact a125_0 (d := d + 14) hR hA hl KA KA.2.2.2.2.2.1.1 (by omega) hk
theorem cq123 (Z : CLA e x Y h s m) {k : Nat} {z : Int32} (h6 : nN (h 3) ≤ 6) (hk : k < nN (h 3)) : dN e (d + 19) 123 [.ref x, .int (Int32.ofNat k), .int z] m = rI (letS h (4 + 6 * k) z) m := by
  obtain ⟨R, I, H, S, Ar, n, c, K, KH, hl, KA⟩ := Z
  have hR := K.1
  have hA : hB TA 19 (x + 26) (Ar 0) m := K.2.2.2.2 0 (by omega)
  have bn := KA.bn
  exact a123_0 (d := d + 14) hR hA hl KA KA.2.2.2.2.2.1.1 h6 hk
theorem cq126 (Z : CLA e x Y h s m) {j k : Nat} (h6 : nN (h 3) ≤ 6) (hj : j < nN (h 3)) (hk : k < nbS s) : dN e (d + 19) 126 [.ref x, .int (Int32.ofNat j), .int (Int32.ofNat k)] m = rI (obsS s h (Int32.ofNat j) k) m := by
  obtain ⟨R, I, H, S, Ar, n, c, K, KH, hl, KA⟩ := Z
  have hR := K.1
  have hA : hB TA 19 (x + 26) (Ar 0) m := K.2.2.2.2 0 (by omega)
  have bn := KA.bn
  exact a126_0 (d := d + 14) hR hA hl KA KA.2.2.2.2.2.1.1 h6 bn.1 bn.2.1 hj hk
theorem cq133 (Z : CLA e x Y h s m) : dN e (d + 19) 133 [.ref x] m = some (.inl (some (.float (shrS s h))), m) := by
  obtain ⟨R, I, H, S, Ar, n, c, K, KH, hl, KA⟩ := Z
  have hR := K.1
  have hA : hB TA 19 (x + 26) (Ar 0) m := K.2.2.2.2 0 (by omega)
  have bn := KA.bn
  exact a133_0 (d := d + 14) hR hA hl KA
theorem cq134 (Z : CLA e x Y h s m) : dN e (d + 19) 134 [.ref x] m = some (.inl (some (.double (meanS s))), m) := by
  obtain ⟨R, I, H, S, Ar, n, c, K, KH, hl, KA⟩ := Z
  have hR := K.1
  have hA : hB TA 19 (x + 26) (Ar 0) m := K.2.2.2.2 0 (by omega)
  have bn := KA.bn
  exact a134_0 (d := d + 14) hR hA hl KA
theorem cla_gone (Z : CLA e x Y h s m) : gonN s = Int32.ofNat (cnt (gonB s) (nbS s)) := by
  obtain ⟨R, I, H, S, Ar, n, c, K, KH, hl, KA⟩ := Z
  exact kep_gon KA.2.1.2.2.2.1
end
section
variable {e : dEnv} {d x0 x b0 l0 N a C SS Y S P K R w : Nat} {f : Nat → Int32} {h s : sV} {m : dMem}
theorem GE.le {C' S' : Nat} (I : GE e x0 x b0 l0 N f w h C SS a Y s m) (h1 : C ≤ C') (h2 : SS ≤ S') : GE e x0 x b0 l0 N f w h C' S' a Y s m := by
  obtain ⟨bb, l, nb, ad, yr, G, z⟩ := I
  exact ⟨bb, l, nb, ad, yr, G.le h1 h2, z⟩
theorem g_act (I : GE e x0 x b0 l0 N f w h C SS a Y s m) (Q : QR h S P K R) (hY : Y ≤ 4500) (ha : a ≤ 500000) : ∃ m' s' a' Y', dN e (d + 20) 194 [.ref x, .ref w, .ref b0] m = rI (bI true) m' ∧ GE e x0 x b0 l0 N f w h (C + 12) (SS + 120) a' Y' s' m' ∧ a' ≤ a + 10 ∧ Y' ≤ Y + 50 := by
  obtain ⟨bb, l, nb, ad, yr, G, hw, hyr, y0, yY⟩ := I
  subst hw
  have nn := Q.nn
  have qe := Q.e
  have hns := G.w.nbs
  have QQ := Q
  obtain ⟨T, s1, s2, p1, p2, k1, k2, r1, r2⟩ := Q
  obtain ⟨wh, m1, g1, -, w15, G1⟩ := g_draw (d := d + 18) G (lo := 0) (hi := 15) (by omega) (by omega) (by omega)
  obtain ⟨b, m2, g2, -, bb1, G2⟩ := g_draw (d := d + 18) G1 (lo := 0) (hi := nb - 1) (by omega) (by omega) (by omega)
  obtain ⟨r, m3, g3, -, rr, G3⟩ := g_draw (d := d + 18) G2 (lo := 0) (hi := R - 1) (by omega) (by omega) (by omega)
  obtain ⟨v0, m4, g4, -, vv, G4⟩ := g_draw (d := d + 18) G3 (lo := 0) (hi := 2) (by omega) (by omega) (by omega)
  have c0 : ∀ t, runL e (dN e (d + 19)) 194 (t + 1) 0 [some (.ref x), some (.ref (ad 0)), some (.ref b0), none, none, none, none, none, none, none, none] [] m = (if Int32.ofNat v0 = Int32.ofNat 0 then runL e (dN e (d + 19)) 194 t 2 [some (.ref x), some (.ref (ad 0)), some (.ref b0), some (.int (Int32.ofNat wh)), some (.int (Int32.ofNat b)), some (.int (Int32.ofNat r)), none, none, none, none, none] [.int (Int32.ofNat 50), .int (Int32.ofNat 1), .ref b0] m4 else runL e (dN e (d + 19)) 194 t 1 [some (.ref x), some (.ref (ad 0)), some (.ref b0), some (.int (Int32.ofNat wh)), some (.int (Int32.ofNat b)), some (.int (Int32.ofNat r)), none, none, none, none, none] [.int (Int32.ofNat 1), .ref b0] m4) := by
    intro t
    rw [q194_0, g1, kI_r, f_nb G1.w, bd_s, mMax_0 (by omega), g2, kI_r, f_R G2.w, bd_s, qe.2.2.2, nSub (by omega), g3, kI_r, g4, kI_r]
  obtain ⟨hi, h1, h50, c2⟩ : ∃ hi, 1 ≤ hi ∧ hi ≤ 50 ∧ ∀ t, ∃ t', t ≤ t' ∧ runL e (dN e (d + 19)) 194 (t + 2) 0 [some (.ref x), some (.ref (ad 0)), some (.ref b0), none, none, none, none, none, none, none, none] [] m = runL e (dN e (d + 19)) 194 t' 2 [some (.ref x), some (.ref (ad 0)), some (.ref b0), some (.int (Int32.ofNat wh)), some (.int (Int32.ofNat b)), some (.int (Int32.ofNat r)), none, none, none, none, none] [.int (Int32.ofNat hi), .int (Int32.ofNat 1), .ref b0] m4 := by
    by_cases q : v0 = 0
    · exact ⟨50, by omega, by omega, fun t => ⟨t + 1, by omega, by rw [c0, if_pos (by rw [q])]⟩⟩
    · exact ⟨3, by omega, by omega, fun t => ⟨t, Nat.le_refl _, by rw [c0, if_neg (by rw [nEq (by omega) (by omega)]; exact q), q194_1]⟩⟩
  obtain ⟨v, m5, g5, v1, v2, G5⟩ := g_draw (d := d + 18) G4 (lo := 1) (hi := hi) (by omega) (by omega) (by omega)
  -- each act ends so
  have key : (∃ m' s' a' Y', (∀ t, runL e (dN e (d + 19)) 194 (t + 100) 2 [some (.ref x), some (.ref (ad 0)), some (.ref b0), some (.int (Int32.ofNat wh)), some (.int (Int32.ofNat b)), some (.int (Int32.ofNat r)), none, none, none, none, none] [.int (Int32.ofNat hi), .int (Int32.ofNat 1), .ref b0] m4 = rI (bI true) m') ∧ GE e x0 x b0 l0 N f (ad 0) h (C + 12) (SS + 120) a' Y' s' m' ∧ a' ≤ a + 10 ∧ Y' ≤ Y + 50) := by
    by_cases w3 : wh < 3
    · obtain ⟨m6, m', n, a1, a2, a3, a4, a5, G6, y6⟩ := acA (d := d) G5 hyr (v := v) v1 (by omega) (by omega)
      refine ⟨m', _, _, _, fun t => ?_, ⟨bb, l, nb, ad, yr + v, G6.le (by omega) (by omega), rfl, y6, by omega, by omega⟩, by omega, by omega⟩
      rw [q194_2, g5, kI_r, if_pos (by rw [nLt (by omega) (by omega)]; exact w3), a1, kV_r, a2, kI_r, if_pos rfl, a3, kI_r, if_pos rfl, a4, kI_r, a5, kI_r, if_pos rfl, q194_4, rZ_1]
    · have e2 : ∀ t, runL e (dN e (d + 19)) 194 (t + 1) 2 [some (.ref x), some (.ref (ad 0)), some (.ref b0), some (.int (Int32.ofNat wh)), some (.int (Int32.ofNat b)), some (.int (Int32.ofNat r)), none, none, none, none, none] [.int (Int32.ofNat hi), .int (Int32.ofNat 1), .ref b0] m4 = runL e (dN e (d + 19)) 194 t 5 [some (.ref x), some (.ref (ad 0)), some (.ref b0), some (.int (Int32.ofNat wh)), some (.int (Int32.ofNat b)), some (.int (Int32.ofNat r)), some (.int (Int32.ofNat v)), none, none, none, none] [] m5 := fun t => by rw [q194_2, g5, kI_r, if_neg (by rw [nLt (by omega) (by omega)]; exact w3)]
      have close : ∀ {L : Nat} {ls : dLs} {c : Nat}, (∀ t, ∃ t', t ≤ t' ∧ runL e (dN e (d + 19)) 194 (t + 20) 2 [some (.ref x), some (.ref (ad 0)), some (.ref b0), some (.int (Int32.ofNat wh)), some (.int (Int32.ofNat b)), some (.int (Int32.ofNat r)), none, none, none, none, none] [.int (Int32.ofNat hi), .int (Int32.ofNat 1), .ref b0] m4 = runL e (dN e (d + 19)) 194 t' L ls [] m5) → c ≤ 60 → (∃ m' s' a' bb' nb' ad', (∀ t, runL e (dN e (d + 19)) 194 (t + c) L ls [] m5 = rI (bI true) m') ∧ GS e x0 x b0 l0 N f a' bb' (C + 10) (SS + 100) l nb' Y ad' h s' Y s' m' ∧ ad' 0 = ad 0 ∧ a' ≤ a + 5 + 4 ∧ s' 0 = Int32.ofNat yr) → (∃ m' s' a' Y', (∀ t, runL e (dN e (d + 19)) 194 (t + 100) 2 [some (.ref x), some (.ref (ad 0)), some (.ref b0), some (.int (Int32.ofNat wh)), some (.int (Int32.ofNat b)), some (.int (Int32.ofNat r)), none, none, none, none, none] [.int (Int32.ofNat hi), .int (Int32.ofNat 1), .ref b0] m4 = rI (bI true) m') ∧ GE e x0 x b0 l0 N f (ad 0) h (C + 12) (SS + 120) a' Y' s' m' ∧ a' ≤ a + 10 ∧ Y' ≤ Y + 50) := by
        intro L ls c r1 hc ⟨m', s', a', bb', nb', ad', r2, G6, h6, a6, y6⟩
        refine ⟨m', s', a', Y, fun t => ?_, ⟨bb', l, nb', ad', yr, G6.le (by omega) (by omega), h6, y6, y0, yY⟩, by omega, by omega⟩
        obtain ⟨t1, b1, b2⟩ := r1 (t + 80)
        obtain ⟨u, rfl⟩ : ∃ u, t1 = u + c := ⟨t1 - c, by omega⟩
        rw [b2, r2]
      by_cases w6 : wh < 6 ∨ nb = 0
      · refine close (L := 6) (ls := [some (.ref x), some (.ref (ad 0)), some (.ref b0), none, none, none, none, none, none, none, none]) (fun t => ⟨t + 18, by omega, ?_⟩) (by omega) (acB (d := d) G5 QQ hyr y0 yY (by omega) (by omega))
        rw [e2, q194_5]
        by_cases q : wh < 6
        · rw [if_pos (by rw [nLt (by omega) (by omega)]; exact q)]
        · rw [if_neg (by rw [nLt (by omega) (by omega)]; exact q), f_nb G5.w, bd_s, if_pos (by rw [nEq (by omega) (by omega)]; omega)]
      · have hb : b < nb := by omega
        have e13 : ∀ t, runL e (dN e (d + 19)) 194 (t + 2) 2 [some (.ref x), some (.ref (ad 0)), some (.ref b0), some (.int (Int32.ofNat wh)), some (.int (Int32.ofNat b)), some (.int (Int32.ofNat r)), none, none, none, none, none] [.int (Int32.ofNat hi), .int (Int32.ofNat 1), .ref b0] m4 = runL e (dN e (d + 19)) 194 t 13 [some (.ref x), some (.ref (ad 0)), some (.ref b0), some (.int (Int32.ofNat wh)), some (.int (Int32.ofNat b)), some (.int (Int32.ofNat r)), some (.int (Int32.ofNat v)), none, none, none, none] [] m5 := fun t => by rw [e2, q194_5, if_neg (by rw [nLt (by omega) (by omega)]; omega), f_nb G5.w, bd_s, if_neg (by rw [nEq (by omega) (by omega)]; omega)]
        by_cases z6 : wh = 6
        · subst z6
          exact close (fun t => ⟨t + 18, by omega, e13 _⟩) (by omega) (acC (d := d) (r := r) (v := v) G5 QQ hyr hb (by omega))
        · have e20 : ∀ t, runL e (dN e (d + 19)) 194 (t + 3) 2 [some (.ref x), some (.ref (ad 0)), some (.ref b0), some (.int (Int32.ofNat wh)), some (.int (Int32.ofNat b)), some (.int (Int32.ofNat r)), none, none, none, none, none] [.int (Int32.ofNat hi), .int (Int32.ofNat 1), .ref b0] m4 = runL e (dN e (d + 19)) 194 t 20 [some (.ref x), some (.ref (ad 0)), some (.ref b0), some (.int (Int32.ofNat wh)), some (.int (Int32.ofNat b)), some (.int (Int32.ofNat r)), some (.int (Int32.ofNat v)), some (.ref (ad (7 + 2 * b))), none, none, none] [] m5 := fun t => by rw [e13, q194_13, f_rbxs G5.w, bd_s, f_box G5.w hb (by omega), bd_s, if_neg (by rw [nEq (by omega) (by omega)]; exact z6)]
          by_cases z7 : wh = 7
          · subst z7
            exact close (fun t => ⟨t + 17, by omega, e20 _⟩) (by omega) (acD (d := d) (r := r) (v := v) G5 hyr y0 yY (by omega) hb v1 (by omega))
          · have e26 : ∀ t, runL e (dN e (d + 19)) 194 (t + 4) 2 [some (.ref x), some (.ref (ad 0)), some (.ref b0), some (.int (Int32.ofNat wh)), some (.int (Int32.ofNat b)), some (.int (Int32.ofNat r)), none, none, none, none, none] [.int (Int32.ofNat hi), .int (Int32.ofNat 1), .ref b0] m4 = runL e (dN e (d + 19)) 194 t 26 [some (.ref x), some (.ref (ad 0)), some (.ref b0), some (.int (Int32.ofNat wh)), some (.int (Int32.ofNat b)), some (.int (Int32.ofNat r)), none, some (.ref (ad (7 + 2 * b))), none, none, none] [] m5 := fun t => by rw [e20, q194_20, if_neg (by rw [nEq (by omega) (by omega)]; exact z7)]
            by_cases z11 : wh < 11
            · exact close (fun t => ⟨t + 16, by omega, e26 _⟩) (by omega) (acE (d := d) (wh := wh) (r := r) G5 QQ hyr hb (by omega) z11)
            · have e32 : ∀ t, runL e (dN e (d + 19)) 194 (t + 5) 2 [some (.ref x), some (.ref (ad 0)), some (.ref b0), some (.int (Int32.ofNat wh)), some (.int (Int32.ofNat b)), some (.int (Int32.ofNat r)), none, none, none, none, none] [.int (Int32.ofNat hi), .int (Int32.ofNat 1), .ref b0] m4 = runL e (dN e (d + 19)) 194 t 32 [some (.ref x), some (.ref (ad 0)), some (.ref b0), some (.int (Int32.ofNat wh)), some (.int (Int32.ofNat b)), none, none, some (.ref (ad (7 + 2 * b))), none, none, none] [] m5 := fun t => by rw [e26, q194_26, if_neg (by rw [nLt (by omega) (by omega)]; exact z11)]
              by_cases z12 : wh = 11
              · subst z12
                exact close (fun t => ⟨t + 15, by omega, e32 _⟩) (by omega) (acF (d := d) G5 hyr hb)
              · by_cases z14 : wh < 14
                · exact close (fun t => ⟨t + 15, by omega, e32 _⟩) (by omega) (acG (d := d) (b := b) (wh := wh) G5 hyr z12 z14)
                · have e41 : ∀ t, runL e (dN e (d + 19)) 194 (t + 7) 2 [some (.ref x), some (.ref (ad 0)), some (.ref b0), some (.int (Int32.ofNat wh)), some (.int (Int32.ofNat b)), some (.int (Int32.ofNat r)), none, none, none, none, none] [.int (Int32.ofNat hi), .int (Int32.ofNat 1), .ref b0] m4 = runL e (dN e (d + 19)) 194 t 41 [some (.ref x), some (.ref (ad 0)), some (.ref b0), some (.int (Int32.ofNat wh)), some (.int (Int32.ofNat b)), none, none, some (.ref (ad (7 + 2 * b))), none, none, none] [] m5 := fun t => by rw [e32, q194_32, if_neg (by rw [nEq (by omega) (by omega)]; exact z12), q194_38, if_neg (by rw [nLt (by omega) (by omega)]; exact z14)]
                  by_cases z15 : wh = 14
                  · subst z15
                    exact close (fun t => ⟨t + 13, by omega, e41 _⟩) (by omega) (acH (d := d) G5 hyr hb (by omega) (by omega))
                  · refine close (L := 49) (ls := [some (.ref x), some (.ref (ad 0)), none, none, none, none, none, none, none, none, none]) (fun t => ⟨t + 12, by omega, ?_⟩) (by omega) (acI (d := d) G5 hyr)
                    rw [e41, q194_41, if_neg (by rw [nEq (by omega) (by omega)]; exact z15)]
  obtain ⟨m', s', a', Y', r1, G', a1, y1⟩ := key
  refine ⟨m', s', a', Y', ?_, G', a1, y1⟩
  refine en194 fun t ht => ?_
  obtain ⟨u, rfl⟩ : ∃ u, t = u + 100 + 2 := ⟨t - 102, by omega⟩
  obtain ⟨t1, b1, b2⟩ := c2 (u + 100)
  obtain ⟨u1, rfl⟩ : ∃ u, t1 = u + 100 := ⟨t1 - 100, by omega⟩
  rw [b2, r1]
theorem g_like (I : GE e x0 x b0 l0 N f w h C SS a Y s m) (Q : QR h S P K R) : ∃ m', dN e (d + 20) 193 [.ref x, .ref w] m = rI (bI true) m' ∧ GE e x0 x b0 l0 N f w h (C + 4) (SS + 24) a Y s m' := by
  obtain ⟨bb, l, nb, ad, yr, G, hw, hyr, y0, yY⟩ := I
  subst hw
  have nn := Q.nn
  have qe := Q.e
  obtain ⟨T, s1, s2, p1, p2, k1, k2, r1, r2⟩ := Q
  have hns := G.w.nbs
  obtain ⟨Ws, H⟩ := G.w.ws
  have V := G.w.inv
  have hl24 : nlS s ≤ 24 := Ws.2.1.2.2
  have hl2 : s 2 = Int32.ofNat (nlS s) := Ws.2.1.1
  have first : ∀ t, runL e (dN e (d + 19)) 193 (t + 2) 0 [some (.ref x), some (.ref (ad 0)), none, none] [] m = runL e (dN e (d + 19)) 193 t 3 [some (.ref x), some (.ref (ad 0)), some (.int (Int32.ofNat 0)), none] [] m := by
    intro t
    rw [q193_0, cq93 G.c, kI_r, f_yr G.w, bd_s, if_pos rfl, cq94 G.c, kI_r, f_K G.w, bd_s, if_pos rfl, cq95 G.c, kI_r, f_nb G.w, bd_s, if_pos hns.2.2, cq96 G.c, kI_r, f_R G.w, bd_s, if_pos rfl, cq97 G.c, kI_r, f_S G.w, bd_s, if_pos rfl, cq98 G.c, kI_r, f_P G.w, bd_s, if_pos rfl, cq99 G.c, kI_r, v_room (d := d + 17) G.w, kI_r, if_pos rfl, cq100 G.c, kI_r, v_free (d := d + 17) G.w, kI_r, if_pos rfl, cq102 G.c, kI_r, v_gone (d := d + 18) G.w, kI_r, if_pos (cla_gone G.c), cq103 G.c, kI_r, v_lent (d := d + 18) G.w, kI_r, if_pos rfl, cq121 G.c, kI_r, f_nl G.w, bd_s, if_pos rfl, q193_2]
  have loop1 : ∀ n k t, k + n = nlS s → runL e (dN e (d + 19)) 193 (t + 2 * n + 1) 3 [some (.ref x), some (.ref (ad 0)), some (.int (Int32.ofNat k)), none] [] m = runL e (dN e (d + 19)) 193 t 5 [some (.ref x), some (.ref (ad 0)), none, none] [] m := by
    intro n
    induction n with
    | zero =>
      intro k t hk
      rw [Nat.mul_zero, Nat.add_zero, q193_3, f_nl G.w, bd_s, hl2, if_neg (by rw [nLt (by omega) (by omega)]; omega)]
    | succ n ih =>
      intro k t hk
      rw [show t + 2 * (n + 1) + 1 = t + 2 * n + 1 + 1 + 1 by omega, q193_3, f_nl G.w, bd_s, hl2, if_pos (by rw [nLt (by omega) (by omega)]; omega), cq122 G.c (by omega), kI_r, f_rlst G.w, bd_s, f_lst G.w (by omega) (by omega), bd_s, if_pos rfl, q193_4, nAdd, ih (k + 1) t (by omega)]
  have step : ∀ k t, k < nb → ∃ t', t ≤ t' ∧ runL e (dN e (d + 19)) 193 (t + 10) 6 [some (.ref x), some (.ref (ad 0)), some (.int (Int32.ofNat k)), none] [] m = runL e (dN e (d + 19)) 193 t' 6 [some (.ref x), some (.ref (ad 0)), some (.int (Int32.ofNat (k + 1))), none] [] m := by
    intro k t hk
    have hks : k < nbS s := by omega
    have g10 := f_b10g G.w hk
    obtain ⟨u, u2, e5, e6, hu⟩ := f_b56 G.w hk
    have A : ∃ c, ∀ t, ∃ t', t ≤ t' ∧ runL e (dN e (d + 19)) 193 (t + 2) 6 [some (.ref x), some (.ref (ad 0)), some (.int (Int32.ofNat k)), none] [] m = runL e (dN e (d + 19)) 193 t' 8 [some (.ref x), some (.ref (ad 0)), some (.int (Int32.ofNat k)), some (.ref (ad (7 + 2 * k)))] [.int c, .int c] m := by
      have st : ∀ t, runL e (dN e (d + 19)) 193 (t + 1) 6 [some (.ref x), some (.ref (ad 0)), some (.int (Int32.ofNat k)), none] [] m = (if bI (gonB s k) = Int32.ofNat 0 then runL e (dN e (d + 19)) 193 t 7 [some (.ref x), some (.ref (ad 0)), some (.int (Int32.ofNat k)), some (.ref (ad (7 + 2 * k)))] [.int (if gonB s k = true then nM1 else Int32.ofNat (nN (bx s k 4) / nN (h 1)))] m else runL e (dN e (d + 19)) 193 t 8 [some (.ref x), some (.ref (ad 0)), some (.int (Int32.ofNat k)), some (.ref (ad (7 + 2 * k)))] [.int nM1, .int (if gonB s k = true then nM1 else Int32.ofNat (nN (bx s k 4) / nN (h 1)))] m) := by
        intro t
        rw [q193_6, f_nb G.w, bd_s, if_pos (by rw [nLt (by omega) (by omega)]; exact hk), f_rbxs G.w, bd_s, f_box G.w hk (by omega), bd_s, cq109 G.c hks, kI_r, f_b0 G.w hk, bd_s, if_pos rfl, cq110 G.c hks, kI_r, f_b1 G.w hk, bd_s, if_pos rfl, cq111 G.c hks, kI_r, g10, bd_s]
      cases hg : gonB s k with
      | true => exact ⟨nM1, fun t => ⟨t + 1, by omega, by rw [st, hg, if_neg (by decide +kernel), if_pos rfl]⟩⟩
      | false =>
        obtain ⟨i, j, i1, j1, rfl, rfl, hq⟩ := hu hg
        refine ⟨Int32.ofNat i, fun t => ⟨t, Nat.le_refl _, ?_⟩⟩
        have hd : nN (bx s k 4) / nN (h 1) = i := by
          have := mk_lt i1 j1
          rw [hq, nN_o (by rw [nn.1, nn.2.1] at *; omega), nn.2.1]
          rw [nn.2.1] at j1
          rw [Nat.mul_comm, Nat.mul_add_div (by omega), Nat.div_eq_of_lt j1, Nat.add_zero]
        rw [st, hg, bI_f, if_pos rfl, if_neg Bool.false_ne_true, hd, q193_7, e5, bd_s]
    have Bq : ∀ c, ∃ c', ∀ t, ∃ t', t ≤ t' ∧ runL e (dN e (d + 19)) 193 (t + 2) 8 [some (.ref x), some (.ref (ad 0)), some (.int (Int32.ofNat k)), some (.ref (ad (7 + 2 * k)))] [.int c, .int c] m = runL e (dN e (d + 19)) 193 t' 10 [some (.ref x), some (.ref (ad 0)), some (.int (Int32.ofNat k)), some (.ref (ad (7 + 2 * k)))] [.int c', .int c'] m := by
      intro c
      have st : ∀ t, runL e (dN e (d + 19)) 193 (t + 1) 8 [some (.ref x), some (.ref (ad 0)), some (.int (Int32.ofNat k)), some (.ref (ad (7 + 2 * k)))] [.int c, .int c] m = (if bI (gonB s k) = Int32.ofNat 0 then runL e (dN e (d + 19)) 193 t 9 [some (.ref x), some (.ref (ad 0)), some (.int (Int32.ofNat k)), some (.ref (ad (7 + 2 * k)))] [.int (if gonB s k = true then nM1 else Int32.ofNat (nN (bx s k 4) % nN (h 1)))] m else runL e (dN e (d + 19)) 193 t 10 [some (.ref x), some (.ref (ad 0)), some (.int (Int32.ofNat k)), some (.ref (ad (7 + 2 * k)))] [.int nM1, .int (if gonB s k = true then nM1 else Int32.ofNat (nN (bx s k 4) % nN (h 1)))] m) := by
        intro t
        rw [q193_8, if_pos rfl, cq112 G.c hks, kI_r, g10, bd_s]
      cases hg : gonB s k with
      | true => exact ⟨nM1, fun t => ⟨t + 1, by omega, by rw [st, hg, if_neg (by decide +kernel), if_pos rfl]⟩⟩
      | false =>
        obtain ⟨i, j, i1, j1, rfl, rfl, hq⟩ := hu hg
        refine ⟨Int32.ofNat j, fun t => ⟨t, Nat.le_refl _, ?_⟩⟩
        have hd : nN (bx s k 4) % nN (h 1) = j := by
          have := mk_lt i1 j1
          rw [hq, nN_o (by rw [nn.1, nn.2.1] at *; omega), nn.2.1]
          rw [nn.2.1] at j1
          rw [Nat.mul_comm, Nat.mul_add_mod, Nat.mod_eq_of_lt j1]
        rw [st, hg, bI_f, if_pos rfl, if_neg Bool.false_ne_true, hd, q193_9, e6, bd_s]
    have Cq : ∀ c, ∃ c', ∀ t, ∃ t', t ≤ t' ∧ runL e (dN e (d + 19)) 193 (t + 2) 10 [some (.ref x), some (.ref (ad 0)), some (.int (Int32.ofNat k)), some (.ref (ad (7 + 2 * k)))] [.int c, .int c] m = runL e (dN e (d + 19)) 193 t' 12 [some (.ref x), some (.ref (ad 0)), some (.int (Int32.ofNat k)), some (.ref (ad (7 + 2 * k)))] [.int c', .int c'] m := by
      intro c
      have st : ∀ t, runL e (dN e (d + 19)) 193 (t + 1) 10 [some (.ref x), some (.ref (ad 0)), some (.int (Int32.ofNat k)), some (.ref (ad (7 + 2 * k)))] [.int c, .int c] m = (if bx s k 5 < Int32.ofNat 0 then runL e (dN e (d + 19)) 193 t 12 [some (.ref x), some (.ref (ad 0)), some (.int (Int32.ofNat k)), some (.ref (ad (7 + 2 * k)))] [.int nM1, .int (if bx s k 5 = nM1 then nM1 else bx s k 6)] m else runL e (dN e (d + 19)) 193 t 11 [some (.ref x), some (.ref (ad 0)), some (.int (Int32.ofNat k)), some (.ref (ad (7 + 2 * k)))] [.int (if bx s k 5 = nM1 then nM1 else bx s k 6)] m) := by
        intro t
        rw [q193_10, if_pos rfl, cq113 G.c hks, kI_r, g10, bd_s, if_pos rfl, cq115 G.c hks, kI_r, f_b4 G.w hk, bd_s, if_pos rfl, cq116 G.c hks, kI_r, f_b7 G.w hk, bd_s, if_pos rfl, cq117 G.c hks, kI_r, f_b7 G.w hk, bd_s]
      by_cases h5 : bx s k 5 = nM1
      · exact ⟨nM1, fun t => ⟨t + 1, by omega, by rw [st, if_pos (by rw [hld_w G.w hk]; exact h5), if_pos h5]⟩⟩
      · exact ⟨bx s k 6, fun t => ⟨t, Nat.le_refl _, by rw [st, if_neg (by rw [hld_w G.w hk]; exact h5), if_neg h5, q193_11, f_b8 G.w hk, bd_s]⟩⟩
    have Dq : ∀ c, ∃ c', ∀ t, ∃ t', t ≤ t' ∧ runL e (dN e (d + 19)) 193 (t + 2) 12 [some (.ref x), some (.ref (ad 0)), some (.int (Int32.ofNat k)), some (.ref (ad (7 + 2 * k)))] [.int c, .int c] m = runL e (dN e (d + 19)) 193 t' 14 [some (.ref x), some (.ref (ad 0)), some (.int (Int32.ofNat k)), none] [.int c', .int c'] m := by
      intro c
      have st : ∀ t, runL e (dN e (d + 19)) 193 (t + 1) 12 [some (.ref x), some (.ref (ad 0)), some (.int (Int32.ofNat k)), some (.ref (ad (7 + 2 * k)))] [.int c, .int c] m = (if bx s k 8 = Int32.ofNat 0 then runL e (dN e (d + 19)) 193 t 14 [some (.ref x), some (.ref (ad 0)), some (.int (Int32.ofNat k)), none] [.int nM1, .int (if bx s k 8 = Int32.ofNat 0 then nM1 else bx s k 9)] m else runL e (dN e (d + 19)) 193 t 13 [some (.ref x), some (.ref (ad 0)), some (.int (Int32.ofNat k)), some (.ref (ad (7 + 2 * k)))] [.int (if bx s k 8 = Int32.ofNat 0 then nM1 else bx s k 9)] m) := by
        intro t
        rw [q193_12, if_pos rfl, cq119 G.c hks, kI_r, f_b3 G.w hk, bd_s, if_pos rfl, cq127 G.c hks, kI_r, f_b9 G.w hk, bd_s, if_pos rfl, cq128 G.c hks, kI_r, f_b9 G.w hk, bd_s]
      by_cases h8 : bx s k 8 = Int32.ofNat 0
      · exact ⟨nM1, fun t => ⟨t + 1, by omega, by rw [st, if_pos h8, if_pos h8]⟩⟩
      · have hw8 : 0 < nN (bx s k 8) := by
          have wb := (Ws.2.2.2.1 k hks).2.2.2.2.2.2.1
          obtain ⟨v, z1, z2, z3, z4⟩ := wb.ex
          rw [z1, nEq (by omega) (by omega)] at h8
          omega
        have hq0 := f_q G.w hk hw8 (by omega)
        exact ⟨bx s k 9, fun t => ⟨t, Nat.le_refl _, by rw [st, if_neg h8, if_neg h8, q193_13, f_rq G.w hk, bd_s, hq0, bd_s]⟩⟩
    obtain ⟨c1, A⟩ := A
    obtain ⟨c2, B2⟩ := Bq c1
    obtain ⟨c3, C3⟩ := Cq c2
    obtain ⟨c4, D4⟩ := Dq c3
    obtain ⟨t1, a1, b1⟩ := A (t + 8)
    obtain ⟨u1, rfl⟩ : ∃ u, t1 = u + 2 := ⟨t1 - 2, by omega⟩
    obtain ⟨t2, a2, b2⟩ := B2 u1
    obtain ⟨u2, rfl⟩ : ∃ u, t2 = u + 2 := ⟨t2 - 2, by omega⟩
    obtain ⟨t3, a3, b3⟩ := C3 u2
    obtain ⟨u3, rfl⟩ : ∃ u, t3 = u + 2 := ⟨t3 - 2, by omega⟩
    obtain ⟨t4, a4, b4⟩ := D4 u3
    obtain ⟨u4, rfl⟩ : ∃ u, t4 = u + 2 := ⟨t4 - 2, by omega⟩
    exact ⟨u4, by omega, by rw [b1, b2, b3, b4, q193_14, if_pos rfl, q193_16, nAdd]⟩
  obtain ⟨-, -, loop2⟩ := lp_exC (α := Unit) (c := 10) (n := nb) (P := fun _ _ => True) (G := fun t k _ => runL e (dN e (d + 19)) 193 t 6 [some (.ref x), some (.ref (ad 0)), some (.int (Int32.ofNat k)), none] [] m) (fun k _ hk _ => ⟨(), trivial, fun t => step k t hk⟩) nb 0 () (by omega) trivial
  have t3 := tt_3 (d := d) G.c (y := Int32.ofNat nb) (z := Int32.ofNat 0) (rngB_f (Or.inr (by rw [nToI (by omega)]; omega)))
  have G1 := G.th
  have t2 := tt_2 (d := d) G1.c (y := Int32.ofNat K) (z := Int32.ofNat 0) (by omega) (rngB_f (Or.inr (by rw [nToI (by omega)]; omega)))
  have G2 := G1.th
  have t4 := tt_4 (d := d) G2.c (y := Int32.ofNat (nlS s)) (z := Int32.ofNat 0) (rngB_f (Or.inr (by rw [nToI (by omega)]; omega)))
  have G3 := G2.th
  have t5 := tt_5 (d := d) G3.c (y := Int32.ofNat R) (z := Int32.ofNat 0) (by omega) (rngB_f (Or.inr (by rw [nToI (by omega)]; omega)))
  have G4 := G3.th
  refine ⟨_, ?_, ⟨bb, l, nb, ad, yr, G4.le (by omega) (by omega), rfl, hyr, y0, yY⟩⟩
  refine en193 fun t ht => ?_
  obtain ⟨u, rfl⟩ : ∃ u, t = u + 500 + 1 + 2 * nlS s + 1 + 2 := ⟨t - (504 + 2 * nlS s), by omega⟩
  obtain ⟨t1, a1, b1⟩ := loop2 (u + 500) (by omega)
  obtain ⟨u1, rfl⟩ : ∃ u, t1 = u + 10 := ⟨t1 - 10, by omega⟩
  have last : runL e (dN e (d + 19)) 193 (u1 + 10) 6 [some (.ref x), some (.ref (ad 0)), some (.int (Int32.ofNat nb)), none] [] m = rI (bI true) (mTh (mTh (mTh (mTh m)))) := by
    rw [q193_6, f_nb G.w, bd_s, if_neg (by rw [nLt (by omega) (by omega)]; omega), q193_17, cq104 G.c, kI_r, fa_0 V Ws H (by omega), if_pos rfl, f_nb G.w, bd_s, t3, kI_r, if_pos rfl, f_K G1.w, bd_s, qe.2.2.1, t2, kI_r, if_pos rfl, f_nl G2.w, bd_s, hl2, t4, kI_r, if_pos rfl, f_R G3.w, bd_s, qe.2.2.2, t5, kI_r, if_pos rfl, q193_19, rZ_1]
  rw [first, loop1 (nlS s) 0 (u + 500 + 1) (by omega), q193_5, b1, last]
end
end

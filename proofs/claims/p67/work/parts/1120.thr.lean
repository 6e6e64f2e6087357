/-! ===== exceptions that are caught; a text is compared (printed by wip/p67/lw1.py) ===== -/
noncomputable section
theorem kI_h (E : Nat) (m : dMem) (h : Nat → dMem → Option dRes) (k : Int32 → dMem → Option dRes) : kI (some (.inr E, m)) h k = h E m := rfl
theorem kL_h (E : Nat) (m : dMem) (h : Nat → dMem → Option dRes) (k : Int64 → dMem → Option dRes) : kL (some (.inr E, m)) h k = h E m := rfl
section
variable {e : dEnv} {D x : Nat} {c y1 y2 y3 : Int32} {m : dMem}
theorem thr5 {E : Nat} (hE : E = 1 ∨ E = 2 ∨ E = 3) (h : dN e D 189 [.ref x, .int c, .int y1, .int y2, .int y3] m = dTh E m) : dN e (D + 1) 190 [.ref x, .int c, .int y1, .int y2, .int y3] m = rI (Int32.ofNat E) (mTh m) := by
  have hj : ∀ n, hJ (dhd 190) (runL e (dN e D) 190 (n + 1)) [some (.ref x), some (.int c), some (.int y1), some (.int y2), some (.int y3), none] E (mTh m) = rI (Int32.ofNat E) (mTh m) := by
    intro n
    rcases hE with q | q | q <;> subst q <;> rfl
  rw [dN_atT (j := 190) (as := [.ref x, .int c, .int y1, .int y2, .int y3]) (m := m) (ls := [some (.ref x), some (.int c), some (.int y1), some (.int y2), some (.int y3), none]) rfl rfl rfl rfl, dFu, q190_0, h]
  show dFin true (hJ (dhd 190) (runL e (dN e D) 190 (3999900 + 98 + 1)) _ E (mTh m)) = _
  rw [hj]
  rfl
theorem thr4 {E : Nat} (hE : E = 1 ∨ E = 2 ∨ E = 3) (h : dN e D 189 [.ref x, .int c, .int y1, .int y2, .int (Int32.ofNat 0)] m = dTh E m) : dN e (D + 2) 191 [.ref x, .int c, .int y1, .int y2] m = rI (Int32.ofNat E) (mTh m) := by
  refine en191 fun t ht => ?_
  obtain ⟨u, rfl⟩ := fu 9 ht rfl
  rw [q191_0, thr5 hE h, kI_r]
theorem ca0 {E : Nat} (h : dN e D 93 [.ref x] m = dTh E m) : dN e (D + 1) 189 [.ref x, .int (Int32.ofNat 0), .int y1, .int y2, .int y3] m = dTh E m := by
  refine en189 fun t ht => ?_
  obtain ⟨u, rfl⟩ := fu 9 ht rfl
  rw [q189_0, if_neg (by decide +kernel), show 1 + ((Int32.ofNat 0).toInt - 0).toNat = 1 from by decide +kernel]
  show kI (dN e D 93 [.ref x] m) dPass _ = _
  rw [h, kI_th]
theorem th0 {E : Nat} (hE : E = 1 ∨ E = 2 ∨ E = 3) (h : dN e D 93 [.ref x] m = dTh E m) : dN e (D + 3) 191 [.ref x, .int (Int32.ofNat 0), .int y1, .int y2] m = rI (Int32.ofNat E) (mTh m) := thr4 hE (ca0 (y3 := Int32.ofNat 0) h)
theorem ca1 {E : Nat} (h : dN e D 101 [.ref x, .int y1, .int y2] m = dTh E m) : dN e (D + 1) 189 [.ref x, .int (Int32.ofNat 1), .int y1, .int y2, .int y3] m = dTh E m := by
  refine en189 fun t ht => ?_
  obtain ⟨u, rfl⟩ := fu 9 ht rfl
  rw [q189_0, if_neg (by decide +kernel), show 1 + ((Int32.ofNat 1).toInt - 0).toNat = 2 from by decide +kernel]
  show kI (dN e D 101 [.ref x, .int y1, .int y2] m) dPass _ = _
  rw [h, kI_th]
theorem th1 {E : Nat} (hE : E = 1 ∨ E = 2 ∨ E = 3) (h : dN e D 101 [.ref x, .int y1, .int y2] m = dTh E m) : dN e (D + 3) 191 [.ref x, .int (Int32.ofNat 1), .int y1, .int y2] m = rI (Int32.ofNat E) (mTh m) := thr4 hE (ca1 (y3 := Int32.ofNat 0) h)
theorem ca2 {E : Nat} (h : dN e D 106 [.ref x, .int y1] m = dTh E m) : dN e (D + 1) 189 [.ref x, .int (Int32.ofNat 2), .int y1, .int y2, .int y3] m = dTh E m := by
  refine en189 fun t ht => ?_
  obtain ⟨u, rfl⟩ := fu 9 ht rfl
  rw [q189_0, if_neg (by decide +kernel), show 1 + ((Int32.ofNat 2).toInt - 0).toNat = 3 from by decide +kernel]
  show kI (dN e D 106 [.ref x, .int y1] m) dPass _ = _
  rw [h, kI_th]
theorem th2 {E : Nat} (hE : E = 1 ∨ E = 2 ∨ E = 3) (h : dN e D 106 [.ref x, .int y1] m = dTh E m) : dN e (D + 3) 191 [.ref x, .int (Int32.ofNat 2), .int y1, .int y2] m = rI (Int32.ofNat E) (mTh m) := thr4 hE (ca2 (y3 := Int32.ofNat 0) h)
theorem ca3 {E : Nat} (h : dN e D 118 [.ref x, .int y1] m = dTh E m) : dN e (D + 1) 189 [.ref x, .int (Int32.ofNat 3), .int y1, .int y2, .int y3] m = dTh E m := by
  refine en189 fun t ht => ?_
  obtain ⟨u, rfl⟩ := fu 9 ht rfl
  rw [q189_0, if_neg (by decide +kernel), show 1 + ((Int32.ofNat 3).toInt - 0).toNat = 4 from by decide +kernel]
  show kI (dN e D 118 [.ref x, .int y1] m) dPass _ = _
  rw [h, kI_th]
theorem th3 {E : Nat} (hE : E = 1 ∨ E = 2 ∨ E = 3) (h : dN e D 118 [.ref x, .int y1] m = dTh E m) : dN e (D + 3) 191 [.ref x, .int (Int32.ofNat 3), .int y1, .int y2] m = rI (Int32.ofNat E) (mTh m) := thr4 hE (ca3 (y3 := Int32.ofNat 0) h)
theorem ca4 {E : Nat} (h : dN e D 122 [.ref x, .int y1] m = dTh E m) : dN e (D + 1) 189 [.ref x, .int (Int32.ofNat 4), .int y1, .int y2, .int y3] m = dTh E m := by
  refine en189 fun t ht => ?_
  obtain ⟨u, rfl⟩ := fu 9 ht rfl
  rw [q189_0, if_neg (by decide +kernel), show 1 + ((Int32.ofNat 4).toInt - 0).toNat = 5 from by decide +kernel]
  show kI (dN e D 122 [.ref x, .int y1] m) dPass _ = _
  rw [h, kI_th]
theorem th4 {E : Nat} (hE : E = 1 ∨ E = 2 ∨ E = 3) (h : dN e D 122 [.ref x, .int y1] m = dTh E m) : dN e (D + 3) 191 [.ref x, .int (Int32.ofNat 4), .int y1, .int y2] m = rI (Int32.ofNat E) (mTh m) := thr4 hE (ca4 (y3 := Int32.ofNat 0) h)
theorem ca5 {E : Nat} (h : dN e D 125 [.ref x, .int y1] m = dTh E m) : dN e (D + 1) 189 [.ref x, .int (Int32.ofNat 5), .int y1, .int y2, .int y3] m = dTh E m := by
  refine en189 fun t ht => ?_
  obtain ⟨u, rfl⟩ := fu 9 ht rfl
  rw [q189_0, if_neg (by decide +kernel), show 1 + ((Int32.ofNat 5).toInt - 0).toNat = 6 from by decide +kernel]
  show kI (dN e D 125 [.ref x, .int y1] m) dPass _ = _
  rw [h, kI_th]
theorem th5 {E : Nat} (hE : E = 1 ∨ E = 2 ∨ E = 3) (h : dN e D 125 [.ref x, .int y1] m = dTh E m) : dN e (D + 3) 191 [.ref x, .int (Int32.ofNat 5), .int y1, .int y2] m = rI (Int32.ofNat E) (mTh m) := thr4 hE (ca5 (y3 := Int32.ofNat 0) h)
theorem ca7 {E : Nat} (h : dN e D 139 [.ref x, .int y1] m = dTh E m) : dN e (D + 1) 189 [.ref x, .int (Int32.ofNat 7), .int y1, .int y2, .int y3] m = dTh E m := by
  refine en189 fun t ht => ?_
  obtain ⟨u, rfl⟩ := fu 9 ht rfl
  rw [q189_0, if_neg (by decide +kernel), show 1 + ((Int32.ofNat 7).toInt - 0).toNat = 8 from by decide +kernel]
  show kI (dN e D 139 [.ref x, .int y1] m) dPass _ = _
  rw [h, kI_th]
theorem th7 {E : Nat} (hE : E = 1 ∨ E = 2 ∨ E = 3) (h : dN e D 139 [.ref x, .int y1] m = dTh E m) : dN e (D + 3) 191 [.ref x, .int (Int32.ofNat 7), .int y1, .int y2] m = rI (Int32.ofNat E) (mTh m) := thr4 hE (ca7 (y3 := Int32.ofNat 0) h)
theorem ca8 {E : Nat} (h : dN e D 140 [.ref x, .int y1, .int y2] m = dTh E m) : dN e (D + 1) 189 [.ref x, .int (Int32.ofNat 8), .int y1, .int y2, .int y3] m = dTh E m := by
  refine en189 fun t ht => ?_
  obtain ⟨u, rfl⟩ := fu 9 ht rfl
  rw [q189_0, if_neg (by decide +kernel), show 1 + ((Int32.ofNat 8).toInt - 0).toNat = 9 from by decide +kernel]
  show kI (dN e D 140 [.ref x, .int y1, .int y2] m) dPass _ = _
  rw [h, kI_th]
theorem th8 {E : Nat} (hE : E = 1 ∨ E = 2 ∨ E = 3) (h : dN e D 140 [.ref x, .int y1, .int y2] m = dTh E m) : dN e (D + 3) 191 [.ref x, .int (Int32.ofNat 8), .int y1, .int y2] m = rI (Int32.ofNat E) (mTh m) := thr4 hE (ca8 (y3 := Int32.ofNat 0) h)
theorem ca9 {E : Nat} (h : dN e D 141 [.ref x, .int y1, .int y2, .int y3] m = dTh E m) : dN e (D + 1) 189 [.ref x, .int (Int32.ofNat 9), .int y1, .int y2, .int y3] m = dTh E m := by
  refine en189 fun t ht => ?_
  obtain ⟨u, rfl⟩ := fu 9 ht rfl
  rw [q189_0, if_neg (by decide +kernel), show 1 + ((Int32.ofNat 9).toInt - 0).toNat = 10 from by decide +kernel]
  show kI (dN e D 141 [.ref x, .int y1, .int y2, .int y3] m) dPass _ = _
  rw [h, kI_th]
theorem th9 {E : Nat} (hE : E = 1 ∨ E = 2 ∨ E = 3) (h : dN e D 141 [.ref x, .int y1, .int y2, .int (Int32.ofNat 0)] m = dTh E m) : dN e (D + 3) 191 [.ref x, .int (Int32.ofNat 9), .int y1, .int y2] m = rI (Int32.ofNat E) (mTh m) := thr4 hE (ca9 (y3 := Int32.ofNat 0) h)
theorem ca10 {E : Nat} (h : dN e D 142 [.ref x, .int y1, .int y2] m = dTh E m) : dN e (D + 1) 189 [.ref x, .int (Int32.ofNat 10), .int y1, .int y2, .int y3] m = dTh E m := by
  refine en189 fun t ht => ?_
  obtain ⟨u, rfl⟩ := fu 9 ht rfl
  rw [q189_0, if_neg (by decide +kernel), show 1 + ((Int32.ofNat 10).toInt - 0).toNat = 11 from by decide +kernel]
  show kI (dN e D 142 [.ref x, .int y1, .int y2] m) dPass _ = _
  rw [h, kI_th]
theorem th10 {E : Nat} (hE : E = 1 ∨ E = 2 ∨ E = 3) (h : dN e D 142 [.ref x, .int y1, .int y2] m = dTh E m) : dN e (D + 3) 191 [.ref x, .int (Int32.ofNat 10), .int y1, .int y2] m = rI (Int32.ofNat E) (mTh m) := thr4 hE (ca10 (y3 := Int32.ofNat 0) h)
theorem ca11 {E : Nat} (h : dN e D 138 [.ref x, .int y1] m = dTh E m) : dN e (D + 1) 189 [.ref x, .int (Int32.ofNat 11), .int y1, .int y2, .int y3] m = dTh E m := by
  refine en189 fun t ht => ?_
  obtain ⟨u, rfl⟩ := fu 9 ht rfl
  rw [q189_0, if_neg (by decide +kernel), show 1 + ((Int32.ofNat 11).toInt - 0).toNat = 12 from by decide +kernel]
  show kI (dN e D 138 [.ref x, .int y1] m) dPass _ = _
  rw [h, kI_th]
theorem th11 {E : Nat} (hE : E = 1 ∨ E = 2 ∨ E = 3) (h : dN e D 138 [.ref x, .int y1] m = dTh E m) : dN e (D + 3) 191 [.ref x, .int (Int32.ofNat 11), .int y1, .int y2] m = rI (Int32.ofNat E) (mTh m) := thr4 hE (ca11 (y3 := Int32.ofNat 0) h)
theorem ca12 {E : Nat} (h : dN e D 143 [.ref x, .int y1, .int y2] m = dTh E m) : dN e (D + 1) 189 [.ref x, .int (Int32.ofNat 12), .int y1, .int y2, .int y3] m = dTh E m := by
  refine en189 fun t ht => ?_
  obtain ⟨u, rfl⟩ := fu 9 ht rfl
  rw [q189_0, if_neg (by decide +kernel), show 1 + ((Int32.ofNat 12).toInt - 0).toNat = 13 from by decide +kernel]
  show kI (dN e D 143 [.ref x, .int y1, .int y2] m) dPass _ = _
  rw [h, kI_th]
theorem th12 {E : Nat} (hE : E = 1 ∨ E = 2 ∨ E = 3) (h : dN e D 143 [.ref x, .int y1, .int y2] m = dTh E m) : dN e (D + 3) 191 [.ref x, .int (Int32.ofNat 12), .int y1, .int y2] m = rI (Int32.ofNat E) (mTh m) := thr4 hE (ca12 (y3 := Int32.ofNat 0) h)
theorem ca13 {E : Nat} (h : dN e D 144 [.ref x, .int y1] m = dTh E m) : dN e (D + 1) 189 [.ref x, .int (Int32.ofNat 13), .int y1, .int y2, .int y3] m = dTh E m := by
  refine en189 fun t ht => ?_
  obtain ⟨u, rfl⟩ := fu 9 ht rfl
  rw [q189_0, if_neg (by decide +kernel), show 1 + ((Int32.ofNat 13).toInt - 0).toNat = 14 from by decide +kernel]
  show kI (dN e D 144 [.ref x, .int y1] m) dPass _ = _
  rw [h, kI_th]
theorem th13 {E : Nat} (hE : E = 1 ∨ E = 2 ∨ E = 3) (h : dN e D 144 [.ref x, .int y1] m = dTh E m) : dN e (D + 3) 191 [.ref x, .int (Int32.ofNat 13), .int y1, .int y2] m = rI (Int32.ofNat E) (mTh m) := thr4 hE (ca13 (y3 := Int32.ofNat 0) h)
theorem ca14 {E : Nat} (h : dN e D 146 [.ref x, .int y1, .int y2] m = dTh E m) : dN e (D + 1) 189 [.ref x, .int (Int32.ofNat 14), .int y1, .int y2, .int y3] m = dTh E m := by
  refine en189 fun t ht => ?_
  obtain ⟨u, rfl⟩ := fu 9 ht rfl
  rw [q189_0, if_neg (by decide +kernel), show 1 + ((Int32.ofNat 14).toInt - 0).toNat = 15 from by decide +kernel]
  show kI (dN e D 146 [.ref x, .int y1, .int y2] m) dPass _ = _
  rw [h, kI_th]
theorem th14 {E : Nat} (hE : E = 1 ∨ E = 2 ∨ E = 3) (h : dN e D 146 [.ref x, .int y1, .int y2] m = dTh E m) : dN e (D + 3) 191 [.ref x, .int (Int32.ofNat 14), .int y1, .int y2] m = rI (Int32.ofNat E) (mTh m) := thr4 hE (ca14 (y3 := Int32.ofNat 0) h)
theorem ca16 {E : Nat} (h : dN e D 148 [.ref x] m = dTh E m) : dN e (D + 1) 189 [.ref x, .int (Int32.ofNat 16), .int y1, .int y2, .int y3] m = dTh E m := by
  refine en189 fun t ht => ?_
  obtain ⟨u, rfl⟩ := fu 9 ht rfl
  rw [q189_0, if_neg (by decide +kernel), show 1 + ((Int32.ofNat 16).toInt - 0).toNat = 17 from by decide +kernel]
  show kI (dN e D 148 [.ref x] m) dPass _ = _
  rw [h, kI_th]
theorem th16 {E : Nat} (hE : E = 1 ∨ E = 2 ∨ E = 3) (h : dN e D 148 [.ref x] m = dTh E m) : dN e (D + 3) 191 [.ref x, .int (Int32.ofNat 16), .int y1, .int y2] m = rI (Int32.ofNat E) (mTh m) := thr4 hE (ca16 (y3 := Int32.ofNat 0) h)
theorem ca20 {E : Nat} (h : dN e D 136 [.ref x, .int y1] m = dTh E m) : dN e (D + 1) 189 [.ref x, .int (Int32.ofNat 20), .int y1, .int y2, .int y3] m = dTh E m := by
  refine en189 fun t ht => ?_
  obtain ⟨u, rfl⟩ := fu 9 ht rfl
  rw [q189_0, if_pos (by decide +kernel)]
  show kI (dN e D 136 [.ref x, .int y1] m) dPass _ = _
  rw [h, kI_th]
theorem th20 {E : Nat} (hE : E = 1 ∨ E = 2 ∨ E = 3) (h : dN e D 136 [.ref x, .int y1] m = dTh E m) : dN e (D + 3) 191 [.ref x, .int (Int32.ofNat 20), .int y1, .int y2] m = rI (Int32.ofNat E) (mTh m) := thr4 hE (ca20 (y3 := Int32.ofNat 0) h)
theorem th9' {E : Nat} (hE : E = 1 ∨ E = 2 ∨ E = 3) (h : dN e D 141 [.ref x, .int y1, .int y2, .int y3] m = dTh E m) : dN e (D + 2) 190 [.ref x, .int (Int32.ofNat 9), .int y1, .int y2, .int y3] m = rI (Int32.ofNat E) (mTh m) := thr5 hE (ca9 h)
end
/-! a text to compare with: a StringBuilder or a String -/
def hCS (q : Nat) (l : List Nat) (m : dMem) : Prop := (∃ p L w, hT q m p L l.length w ∧ (∀ i, i < l.length → w i = Int32.ofNat (l.getD i 0)) ∧ ∀ v, v ∈ l → v < 128) ∨ ((∃ x, hS1 x m q l) ∧ l.length ≤ 900 ∧ ∀ v, v ∈ l → v < 128)
theorem hX.cs {a C S : Nat} {b : xB} {l : List Nat} {m : dMem} (Z : hX a b C S l m) : hCS a l m := by
  obtain ⟨p, g, w, z1, z2, z3, -⟩ := Z
  exact Or.inl ⟨p, _, w, z1, z2, z3⟩
section
variable {e : dEnv} {d q : Nat} {l : List Nat} {m : dMem}
theorem y369 {p L k : Nat} {w : Nat → Int32} (z1 : hT q m p L l.length w) (z2 : ∀ i, i < l.length → w i = Int32.ofNat (l.getD i 0)) (z3 : ∀ v, v ∈ l → v < 128) (hk : k < l.length) : dN e (d + 2) 369 [.ref q, .int (Int32.ofNat k)] m = rI (Int32.ofNat (l.getD k 0)) m := by
  have q1 := hT_c z1
  have q2 := gd_lt (i := k) z3
  have qk : (Int32.ofNat k).toInt = (k : Int) := nToI (by omega)
  have qm : mMin (Int32.ofNat l.length) (Int32.ofNat L) = Int32.ofNat l.length := by
    rw [mMin_n (by omega) (by omega), Nat.min_eq_left q1.1]
  have key : dN e (d + 1) 375 [.ref q, .int (Int32.ofNat k)] m = rI (Int32.ofNat (l.getD k 0)) m := by
    refine en375 (t_c z1) fun t ht => ?_
    obtain ⟨u, rfl⟩ := fu 9 ht rfl
    rw [q375_0, t_k z1]
    simp only [bd_s]
    rw [t_p z1]
    simp only [bd_s]
    rw [t_n z1]
    simp only [bd_s]
    rw [t_N z1]
    simp only [bd_s]
    rw [sh0, qm, qk, nToI (by omega), if_pos (by omega), if_pos trivial, t_w z1 (by omega)]
    simp only [bd_s]
    rw [z2 k hk, ch16 q2, rC_n (by omega)]
  refine en369 (t_c z1) fun t ht => ?_
  obtain ⟨u, rfl⟩ := fu 9 ht rfl
  rw [q369_0, key, kI_r, rC_n (by omega)]
theorem isC_S {x : Nat} (Z : hS1 x m q l) : isC m q 1 = false ∧ isC m q 0 = true := by
  obtain ⟨-, v, F, g, -, z, -⟩ := Z
  unfold isC
  rw [z]
  exact ⟨rfl, rfl⟩
theorem cs_len (Z : hCS q l m) {α : Type} (A B Cc : α) (kA : Int32 → dMem → Option dRes) : (bif isC m q 1 then (kI (dN e (d + 2) 370 [.ref q] m) dPass kA) else bif isC m q 0 then (kI (dN e (d + 2) 387 [.ref q] m) dPass kA) else none) = kA (Int32.ofNat l.length) m := by
  rcases Z with ⟨p, L, w, z1, z2, z3⟩ | ⟨⟨x, z1⟩, z2, z3⟩
  · rw [t_c z1, cond_true, n370 z1, kI_r]
  · rw [(isC_S z1).1, (isC_S z1).2, cond_false, cond_true, s387 z1, kI_r]
theorem cs_at (Z : hCS q l m) {k : Nat} (hk : k < l.length) (kA : Int32 → dMem → Option dRes) : (bif isC m q 1 then (kI (dN e (d + 2) 369 [.ref q, .int (Int32.ofNat k)] m) dPass kA) else bif isC m q 0 then (kI (dN e (d + 2) 389 [.ref q, .int (Int32.ofNat k)] m) dPass kA) else none) = kA (Int32.ofNat (l.getD k 0)) m := by
  rcases Z with ⟨p, L, w, z1, z2, z3⟩ | ⟨⟨x, z1⟩, z2, z3⟩
  · rw [t_c z1, cond_true, y369 z1 z2 z3 hk, kI_r]
  · rw [(isC_S z1).1, (isC_S z1).2, cond_false, cond_true, s389 z1 hk (by omega) (gd_lt z3), kI_r]
end
section
variable {e : dEnv} {d x0 x b0 l0 N a C S nb Y Yc q : Nat} {f : Nat → Int32} {bb : xB} {l : List Nat} {ad : Nat → Nat} {h s sc : sV} {m : dMem}
theorem g_isText (G : GS e x0 x b0 l0 N f a bb C S l nb Y ad h s Yc sc m) (Z : hCS q l m) : dN e (d + 7) 192 [.ref x, .int (Int32.ofNat l.length), .ref q] m = rI (bI true) (mTh m) := by
  obtain ⟨R, I, H, S', Ar, n, c, K, -, -, -⟩ := G.c
  have hR := K.1
  have tl := G.tl
  have loop : ∀ n k t, k + n = l.length → runL e (dN e (d + 6)) 192 (t + 2 * n + 1) 2 [some (.ref x), some (.int (Int32.ofNat l.length)), some (.ref q), some (.int (Int32.ofNat k))] [] m = runL e (dN e (d + 6)) 192 t 4 [some (.ref x), some (.int (Int32.ofNat l.length)), none, none] [] m := by
    intro n
    induction n with
    | zero =>
      intro k t hk
      have hkl : ¬ Int32.ofNat k < Int32.ofNat l.length := by rw [nLt (by omega) (by omega)]; omega
      rw [Nat.mul_zero, Nat.add_zero, q192_2]
      rcases Z with ⟨p, L, w, z1, z2, z3⟩ | ⟨⟨x', z1⟩, z2, z3⟩
      · rw [t_c z1, cond_true, n370 (d := d + 4) z1, kI_r, if_neg hkl]
      · rw [(isC_S z1).1, (isC_S z1).2, cond_false, cond_true, s387 (d := d + 4) z1, kI_r, if_neg hkl]
    | succ n ih =>
      intro k t hk
      have hkl : Int32.ofNat k < Int32.ofNat l.length := by rw [nLt (by omega) (by omega)]; omega
      have hb := a138_0 (e := e) (d := d + 3) hR G.t (by omega) (k := k) (by omega)
      rw [show t + 2 * (n + 1) + 1 = t + 2 * n + 1 + 1 + 1 by omega, q192_2]
      have fin : runL e (dN e (d + 6)) 192 (t + 2 * n + 1 + 1) 3 [some (.ref x), some (.int (Int32.ofNat l.length)), some (.ref q), some (.int (Int32.ofNat k))] [] m = runL e (dN e (d + 6)) 192 t 4 [some (.ref x), some (.int (Int32.ofNat l.length)), none, none] [] m := by
        rw [q192_3, nAdd, ih (k + 1) t (by omega)]
      rcases Z with ⟨p, L, w, z1, z2, z3⟩ | ⟨⟨x', z1⟩, z2, z3⟩
      · rw [t_c z1, cond_true, n370 (d := d + 4) z1, kI_r, if_pos hkl, hb, kI_r, t_c z1, cond_true, y369 (d := d + 4) z1 z2 z3 (by omega), kI_r, if_pos rfl, fin]
      · rw [(isC_S z1).1, (isC_S z1).2, cond_false, cond_true, s387 (d := d + 4) z1, kI_r, if_pos hkl, hb, kI_r, (isC_S z1).1, (isC_S z1).2, cond_false, cond_true, s389 (d := d + 4) z1 (by omega) (by omega) (gd_lt z3), kI_r, if_pos rfl, fin]
  have hthr : dN e (d + 6) 191 [.ref x, .int (Int32.ofNat 11), .int (Int32.ofNat l.length), .int (Int32.ofNat 0)] m = rI (Int32.ofNat 2) (mTh m) := th11 (D := d + 3) (Or.inr (Or.inl rfl)) (a138_1 (d := d) hR G.t (by omega) (by
    unfold rngB
    rw [nToI (by omega)]
    simp only [Bool.and_eq_false_iff, decide_eq_false_iff_not]
    omega))
  refine en192 fun t ht => ?_
  obtain ⟨u, rfl⟩ : ∃ u, t = u + 3 + 2 * l.length + 1 + 2 := ⟨t - (2 * l.length + 6), by omega⟩
  have first : runL e (dN e (d + 6)) 192 (u + 3 + 2 * l.length + 1 + 2) 0 [some (.ref x), some (.int (Int32.ofNat l.length)), some (.ref q), none] [] m = runL e (dN e (d + 6)) 192 (u + 3 + 2 * l.length + 1 + 1) 1 [some (.ref x), some (.int (Int32.ofNat l.length)), some (.ref q), none] [] m := by
    rw [q192_0]
    rcases Z with ⟨p, L, w, z1, z2, z3⟩ | ⟨⟨x', z1⟩, z2, z3⟩
    · rw [t_c z1, cond_true, n370 (d := d + 4) z1, kI_r, if_pos rfl]
    · rw [(isC_S z1).1, (isC_S z1).2, cond_false, cond_true, s387 (d := d + 4) z1, kI_r, if_pos rfl]
  rw [first, q192_1, loop l.length 0 _ (by omega), q192_4, hthr, kI_r, if_pos rfl, q192_6, rZ_1]
end
end

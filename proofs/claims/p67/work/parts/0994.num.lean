/-! ===== a number is appended to the text ===== -/
noncomputable section
theorem gd_app3 {l k : List Nat} {i : Nat} : (l ++ k).getD (l.length + i) 0 = k.getD i 0 := by
  rw [List.getD_eq_getElem?_getD, List.getD_eq_getElem?_getD, List.getElem?_append_right (Nat.le_add_right _ _), Nat.add_sub_cancel_left]
section
variable {e : dEnv} {d a C S x : Nat} {b : xB} {l : List Nat} {m : dMem}
theorem n384 {p L j v : Nat} {w : Nat → Int32} (hL : L < 100000) (he : e.1 ≤ p) (hx : x ≤ p) (hv : v < 1000000) (D : hDig e x m) (Z : m.1 p = some (.inl (3, L, .inl w))) (hj : j ≤ L) (hd : dgN v ≤ j) : ∃ m2 w2, dN e (d + 1) 384 [.int (Int32.ofNat v), .int (Int32.ofNat j), .ref p] m = rI (Int32.ofNat (j - dgN v)) m2 ∧ m2.1 p = some (.inl (3, L, .inl w2)) ∧ (∀ q, q ≠ p → m2.1 q = m.1 q) ∧ m2.2 = m.2 ∧ (∀ i, i < j - dgN v ∨ j ≤ i → w2 i = w i) ∧ ∀ i, i < dgN v → w2 (j - dgN v + i) = Int32.ofNat ((dig v).getD i 0) := by
  obtain ⟨m2, w2, r1, r2⟩ := n384_3 (e := e) (d := d) hL he x hx v v (Nat.le_refl _) hv j w m D Z hj hd
  refine ⟨m2, w2, ?_, r2⟩
  refine en384 fun t ht => ?_
  obtain ⟨u, rfl⟩ : ∃ u, t = u + 3 := ⟨t - 3, by omega⟩
  rw [q384_0, if_neg (by rw [nLt (by omega) (by omega)]; omega), q384_1, q384_2, if_pos (by trivial), r1 u (by omega)]
theorem x374g (Z : hX a b C S l m) {v : Nat} (hl : l.length + 6 ≤ gM b.2) (hv : v < 1000000) (D : hDig e x m) (hx : x ≤ a) (he : e.1 ≤ a) : ∃ m2, dN e (d + 4) 374 [.ref a, .int (Int32.ofNat v)] m = some (.inl (some (.ref a)), m2) ∧ hX a b C S (l ++ dig v) m2 ∧ frX a b m m2 := by
  have hn := dgN_b hv
  have lk := dig_n hv
  obtain ⟨m1, p, g, w, a1, Z1, q, F1⟩ := x378g (e := e) (d := d) Z (k := dgN v) (by omega) (by omega) he
  obtain ⟨p0, g0, w0, Z0⟩ := Z
  have zt := Z0.1
  have hle := Z1.le
  obtain ⟨z1, z2, z3, z4, z5, z6, z7, z8, z9, z10⟩ := Z1
  have q1 := hT_c z1
  have D1 : hDig e x m1 := D.fr (fun r hr => F1 r (z6 r (by omega)))
  obtain ⟨m2, w2, b1, b2, b3, b4, b5, b6⟩ := n384 (e := e) (d := d + 2) (j := l.length + dgN v) (v := v) q1.2.1 (show e.1 ≤ p by omega) (show x ≤ p by omega) hv D1 q1.2.2.2 q (by omega)
  have zt2 : hT a m2 p (gL g) l.length w2 := by
    obtain ⟨F, f, f0, f1, f3, f4, f5, f6, f7⟩ := z1
    exact ⟨F, (b3 a (fun z => f5 z.symm)).trans f, f0, f1, f3, b2, f5, f6, f7⟩
  obtain ⟨m3, c1, c2, c3, c4⟩ := hT_put (e := e) (v := .int (Int32.ofNat (l.length + dgN v))) (k := 3) (c' := l.length + dgN v) zt2 (Or.inl ⟨rfl, rfl, q⟩) he
  have c1' : pI e m2 a 1 3 (Int32.ofNat (l.length + dgN v)) = some m3 := c1
  have m3s : m3.2 = m1.2 := c4.trans b4
  have hl2 : (l ++ dig v).length = l.length + dgN v := by rw [List.length_append, lk]
  refine ⟨m3, ?_, ⟨p, g, w2, by rw [hl2]; exact c2, fun i hi => ?_, fun u hu => ?_, z4, by rw [m3s]; exact z5, z6, by rw [m3s]; exact z7, z8, by rw [m3s]; exact z9, by rw [m3s]; exact z10⟩, frX.tr F1 (fun r h1 => (c3 r (fun z => z4.1 (z ▸ h1))).trans (b3 r (fun z => z4.2 (z ▸ h1))))⟩
  · refine en374 (t_c zt) fun t ht => ?_
    obtain ⟨u, rfl⟩ := fu 9 ht rfl
    rw [q374_0, t_n zt]
    simp only [bd_s]
    rw [n383 (by omega), kI_r, nAdd, a1, kV_r, n380 z1, kI_r, if_neg (by decide +kernel), t_p z1]
    simp only [bd_s]
    rw [b1, kI_r, q374_2, c1']
    rfl
  · rw [hl2] at hi
    rcases Nat.lt_or_ge i l.length with r | r
    · rw [b5 i (by omega), gd_app2 r, z2 i r]
    · have e1 : i = l.length + (i - l.length) := by omega
      have e2 := b6 (i - l.length) (by omega)
      rw [show l.length + dgN v - dgN v + (i - l.length) = i by omega] at e2
      rw [e2]
      conv => rhs; rw [e1, gd_app3]
  · rcases List.mem_append.mp hu with r | r
    · exact z3 u r
    · exact dig_lt r
theorem x374 (Z : hX a b C S l m) {v : Nat} (hl : l.length ≤ 280) (hv : v < 1000000) (D : hDig e x m) (hx : x ≤ a) (he : e.1 ≤ a) : ∃ m2, dN e (d + 4) 374 [.ref a, .int (Int32.ofNat v)] m = some (.inl (some (.ref a)), m2) ∧ hX a b C S (l ++ dig v) m2 ∧ frX a b m m2 := x374g Z (by have := hX_M Z; omega) hv D hx he
theorem x368g (Z : hX a b C S l m) {v : Nat} (hl : l.length + 6 ≤ gM b.2) (hv : v < 1000000) (D : hDig e x m) (hx : x ≤ a) (he : e.1 ≤ a) : ∃ m2, dN e (d + 5) 368 [.ref a, .int (Int32.ofNat v)] m = some (.inl (some (.ref a)), m2) ∧ hX a b C S (l ++ dig v) m2 ∧ frX a b m m2 := by
  obtain ⟨m2, g, h1, h2⟩ := x374g (e := e) (d := d) Z hl hv D hx he
  obtain ⟨p0, g0, w0, Z0⟩ := Z
  refine ⟨m2, ?_, h1, h2⟩
  refine en368 (t_c Z0.1) fun t ht => ?_
  obtain ⟨u, rfl⟩ := fu 9 ht rfl
  rw [q368_0, g, kR_r]
theorem x368 (Z : hX a b C S l m) {v : Nat} (hl : l.length ≤ 280) (hv : v < 1000000) (D : hDig e x m) (hx : x ≤ a) (he : e.1 ≤ a) : ∃ m2, dN e (d + 5) 368 [.ref a, .int (Int32.ofNat v)] m = some (.inl (some (.ref a)), m2) ∧ hX a b C S (l ++ dig v) m2 ∧ frX a b m m2 := x368g Z (by have := hX_M Z; omega) hv D hx he
end
end

/-! ===== Strings: appended, made of a text ===== -/
noncomputable section
/-- at a lies a String with the letters w; it and its array are among P -/
def hS2 (P : Nat → Prop) (m : dMem) (a : Nat) (w : List Nat) : Prop := P a ∧ ∃ v F g, P v ∧ m.1 a = some (.inr (0, F)) ∧ F 0 = .ref v ∧ F 1 = .int (Int32.ofNat 0) ∧ m.1 v = some (.inl (3, w.length, .inl g)) ∧ ∀ j, j < w.length → g j = Int32.ofNat (w.getD j 0)
theorem hS1.to2 {x a : Nat} {m : dMem} {w : List Nat} (Z : hS1 x m a w) : hS2 (fun q => q < x) m a w := Z
theorem hS2.mono {P Q : Nat → Prop} {a : Nat} {m : dMem} {w : List Nat} (Z : hS2 P m a w) (h : ∀ q, P q → Q q) : hS2 Q m a w := by
  obtain ⟨z1, v, F, g, z2, z3⟩ := Z
  exact ⟨h _ z1, v, F, g, h _ z2, z3⟩
theorem hS2.fr {P : Nat → Prop} {a : Nat} {m m2 : dMem} {w : List Nat} (Z : hS2 P m a w) (h : ∀ q, P q → m2.1 q = m.1 q) : hS2 P m2 a w := by
  obtain ⟨z1, v, F, g, z2, z3, z4, z5, z6, z7⟩ := Z
  exact ⟨z1, v, F, g, z2, (h _ z1).trans z3, z4, z5, (h _ z2).trans z6, z7⟩
theorem hS2.s1 {P : Nat → Prop} {a : Nat} {m : dMem} {w : List Nat} (Z : hS2 P m a w) : ∃ x, hS1 x m a w := by
  obtain ⟨z1, v, F, g, z2, z3⟩ := Z
  exact ⟨a + v + 1, by omega, v, F, g, by omega, z3⟩
theorem hX.pr {a C S : Nat} {b : xB} {l : List Nat} {m : dMem} (Z : hX a b C S l m) : (∀ q, q < a → b.1 q) ∧ a < m.2.1 ∧ (∀ q, b.1 q → q < m.2.1) ∧ ¬ b.1 a ∧ m.2.1 ≤ C ∧ m.2.2 ≤ S := by
  obtain ⟨p, g, w, z1, z2, z3, z4, z5, z6, z7, z8, z9, z10⟩ := Z
  exact ⟨z6, z7.1, z7.2, z4.1, by omega, by omega⟩
theorem hX.le1 {a C S C' S' : Nat} {b : xB} {l : List Nat} {m : dMem} (Z : hX a b C S l m) (h1 : C ≤ C') (h2 : S ≤ S') : hX a b C' S' l m := by
  obtain ⟨p, g, w, z1, z2, z3, z4, z5, z6, z7, z8, z9, z10⟩ := Z
  exact ⟨p, g, w, z1, z2, z3, z4, z5, z6, z7, z8, by omega, by omega⟩
theorem hX.len {a C S : Nat} {b : xB} {l : List Nat} {m : dMem} (Z : hX a b C S l m) : l.length ≤ gM b.2 := by
  obtain ⟨p, g, w, z1, z2, z3, z4, z5, z6, z7, z8, z9, z10⟩ := Z
  have h1 := hT_c z1
  have : gL g ≤ gM b.2 := by
    rcases gK_c z8 with ⟨hk, z | z | z | z | z⟩ | ⟨hk, z | z | z | z | z | z⟩ <;> subst z <;> rw [hk] <;> decide
  omega
theorem hX.asc {a C S : Nat} {b : xB} {l : List Nat} {m : dMem} (Z : hX a b C S l m) : ∀ v, v ∈ l → v < 128 := by
  obtain ⟨p, g, w, z1, z2, z3, z4⟩ := Z
  exact z3
/-- more is made elsewhere, and not to be touched either -/
theorem hX.grow {a C S c z : Nat} {b : xB} {l : List Nat} {m m2 : dMem} (Z : hX a b C S l m) (Q : Nat → Prop) (hQ : ∀ q, Q q → b.1 q ∨ (m.2.1 ≤ q ∧ q < m2.2.1)) (hb : ∀ q, q < a → Q q) (h2 : m2.2 = (m.2.1 + c, m.2.2 + z)) (hk : ∀ q, q < m.2.1 → ¬ b.1 q → m2.1 q = m.1 q) : hX a (Q, b.2) (C + c) (S + z) l m2 := by
  obtain ⟨p, g, w, z1, z2, z3, z4, z5, z6, z7, z8, z9, z10⟩ := Z
  have e1 : m2.2.1 = m.2.1 + c := by rw [h2]
  have e2 : m2.2.2 = m.2.2 + z := by rw [h2]
  have z71 := z7.1
  refine ⟨p, g, w, ?_, z2, z3, ⟨fun q => ?_, fun q => ?_⟩, by omega, hb, ⟨by omega, fun q hq => ?_⟩, z8, by rw [e1]; omega, by rw [e2]; omega⟩
  · obtain ⟨F, f, f0, f1, f3, f4, f5, f6, f7⟩ := z1
    exact ⟨F, (hk a z71 z4.1).trans f, f0, f1, f3, (hk p z5 z4.2).trans f4, f5, f6, f7⟩
  · rcases hQ _ q with r | r
    · exact z4.1 r
    · omega
  · rcases hQ _ q with r | r
    · exact z4.2 r
    · omega
  · rcases hQ _ hq with r | r
    · have := z7.2 q r; omega
    · exact r.2
section
variable {e : dEnv} {d a C S sa : Nat} {b : xB} {l w : List Nat} {m : dMem}
theorem s387' {P : Nat → Prop} (Z : hS2 P m sa w) : dN e (d + 2) 387 [.ref sa] m = rI (Int32.ofNat w.length) m := by
  obtain ⟨x, h⟩ := Z.s1
  exact s387 h
theorem s388' {P : Nat → Prop} (Z : hS2 P m sa w) : dN e (d + 1) 388 [.ref sa] m = rI (Int32.ofNat 0) m := by
  obtain ⟨x, h⟩ := Z.s1
  exact s388 h
theorem x397 {P : Nat → Prop} {p L c : Nat} {u : Nat → Int32} (Z : hT a m p L c u) (T : hS2 P m sa w) : dN e (d + 2) 397 [.ref a, .ref sa] m = some (.inl none, m) := by
  refine en397 (t_c Z) fun t ht => ?_
  obtain ⟨u, rfl⟩ := fu 9 ht rfl
  rw [q397_0, if_neg (by decide +kernel), t_k Z]
  simp only [bd_s]
  rw [s388' T, kI_r, if_pos rfl, q397_1]
theorem x401 {P : Nat → Prop} {p L : Nat} {u : Nat → Int32} {k : Nat} (T : hS2 P m sa w) (hp : m.1 p = some (.inl (3, L, .inl u))) (he : e.1 ≤ p) (hk : k + w.length ≤ L) (hL : L < 100000) : ∃ g, (∀ j, j < w.length → g j = Int32.ofNat (w.getD j 0)) ∧ dN e (d + 2) 401 [.ref sa, .ref p, .int (Int32.ofNat k), .int (Int32.ofNat 0)] m = some (.inl none, dUp m p (.inl (3, L, .inl (dCp g u 0 k w.length)))) := by
  have h8 := s388' (e := e) (d := d) T
  obtain ⟨z1, v, F, g, z2, z3, z4, z5, z6, z7⟩ := T
  refine ⟨g, z7, ?_⟩
  have hc : isC m sa 0 = true := by unfold isC; rw [z3]; rfl
  have g0 : gR m sa 0 0 = some v := by unfold gR; simp only [z3, if_true]; rw [z4]
  have gn : aN m v = some (Int32.ofNat w.length) := by unfold aN; rw [z6]
  have gc : aCp e m v (Int32.ofNat 0) p (Int32.ofNat k) (Int32.ofNat w.length) = some (dUp m p (.inl (3, L, .inl (dCp g u 0 k w.length)))) := by
    unfold aCp
    rw [z6, hp]
    simp only
    rw [if_pos ⟨trivial, Or.inr trivial, he, by rw [nToI (by omega)]; omega, by rw [nToI (by omega)]; omega, by rw [nToI (by omega)]; omega, by rw [nToI (by omega), nToI (by omega)]; omega, by rw [nToI (by omega), nToI (by omega)]; omega⟩, nToN (by omega), nToN (by omega), nToN (by omega)]
  refine en401 hc fun t ht => ?_
  obtain ⟨u, rfl⟩ := fu 9 ht rfl
  rw [q401_0, h8, kI_r, if_pos rfl, g0]
  simp only [bd_s]
  rw [gn]
  simp only [bd_s]
  rw [shl0, gc]
  simp only [bd_s]
  rw [q401_2]
theorem x395 (Z : hX a b C S l m) (T : hS2 b.1 m sa w) (hw : w.length ≤ 16) (hv : ∀ v, v ∈ w → v < 128) (hl : l.length + w.length ≤ gM b.2) (he : e.1 ≤ a) : ∃ m2, dN e (d + 5) 395 [.ref a, .ref sa] m = some (.inl (some (.ref a)), m2) ∧ hX a b C S (l ++ w) m2 ∧ frX a b m m2 := by
  have hM := hX_M Z
  obtain ⟨m1, p, g, u, a1, Z1, q, F1⟩ := x378g (e := e) (d := d + 1) Z (k := w.length) hl hw he
  obtain ⟨p0, g0, w0, Z0⟩ := Z
  have zt := Z0.1
  have T1 := T.fr F1
  have hle := Z1.le
  obtain ⟨z1, z2, z3, z4, z5, z6, z7, z8, z9, z10⟩ := Z1
  have q1 := hT_c z1
  obtain ⟨gg, hg, b1⟩ := x401 (e := e) (d := d + 1) (k := l.length) T1 q1.2.2.2 (show e.1 ≤ p by omega) q q1.2.1
  obtain ⟨m2, hm2⟩ : ∃ m2, m2 = dUp m1 p (.inl (3, gL g, .inl (dCp gg u 0 l.length w.length))) := ⟨_, rfl⟩
  rw [← hm2] at b1
  have zt2 : hT a m2 p (gL g) l.length (dCp gg u 0 l.length w.length) := by
    obtain ⟨F, f, f0, f1, f3, f4, f5, f6, f7⟩ := z1
    refine ⟨F, ?_, f0, f1, f3, ?_, f5, f6, f7⟩
    · rw [hm2, dUp_n (fun z => f5 z.symm)]; exact f
    · rw [hm2, dUp_s]
  obtain ⟨m3, c1, c2, c3, c4⟩ := hT_put (e := e) (v := .int (Int32.ofNat (l.length + w.length))) (k := 3) (c' := l.length + w.length) zt2 (Or.inl ⟨rfl, rfl, q⟩) he
  have c1' : pI e m2 a 1 3 (Int32.ofNat (l.length + w.length)) = some m3 := c1
  have m3s : m3.2 = m1.2 := by rw [c4, hm2]; rfl
  have hl2 : (l ++ w).length = l.length + w.length := List.length_append
  refine ⟨m3, ?_, ⟨p, g, _, by rw [hl2]; exact c2, fun i hi => ?_, fun x hx => ?_, z4, by rw [m3s]; exact z5, z6, by rw [m3s]; exact z7, z8, by rw [m3s]; exact z9, by rw [m3s]; exact z10⟩, frX.tr F1 (fun r h1 => (c3 r (fun z => z4.1 (z ▸ h1))).trans (by rw [hm2]; exact dUp_n (fun z => z4.2 (z ▸ h1))))⟩
  · have k396 : dN e (d + 4) 396 [.ref a, .int (Int32.ofNat l.length), .ref sa] m1 = some (.inl none, m2) := by
      refine en396 (t_c z1) fun t ht => ?_
      obtain ⟨u, rfl⟩ := fu 9 ht rfl
      rw [q396_0, x397 (d := d + 1) z1 T1, kV_r, t_p z1]
      simp only [bd_s]
      rw [t_k z1]
      simp only [bd_s]
      rw [b1, kV_r]
    refine en395 (t_c zt) fun t ht => ?_
    obtain ⟨u, rfl⟩ := fu 9 ht rfl
    rw [q395_0, q395_1, s387' (d := d + 2) T, kI_r, t_n zt]
    simp only [bd_s]
    rw [nAdd, a1, kV_r, t_n z1]
    simp only [bd_s]
    rw [k396, kV_r, t_n zt2]
    simp only [bd_s]
    rw [nAdd, c1']
    rfl
  · rw [hl2] at hi
    unfold dCp
    rcases Nat.lt_or_ge i l.length with r | r
    · rw [if_neg (by omega), gd_app2 r, z2 i r]
    · rw [if_pos (by omega), Nat.zero_add, hg _ (by omega)]
      have e1 : i = l.length + (i - l.length) := by omega
      conv => rhs; rw [e1, gd_app3]
  · rcases List.mem_append.mp hx with r | r
    · exact z3 x r
    · exact hv x r
theorem x392 (Z : hX a b C S l m) (T : hS2 b.1 m sa w) (hw : w.length ≤ 16) (hv : ∀ v, v ∈ w → v < 128) (hl : l.length + w.length ≤ gM b.2) (he : e.1 ≤ a) : ∃ m2, dN e (d + 6) 392 [.ref a, .ref sa] m = some (.inl (some (.ref a)), m2) ∧ hX a b C S (l ++ w) m2 ∧ frX a b m m2 := by
  obtain ⟨m2, g, h1, h2⟩ := x395 (e := e) (d := d) Z T hw hv hl he
  obtain ⟨p0, g0, w0, Z0⟩ := Z
  refine ⟨m2, ?_, h1, h2⟩
  refine en392 (t_c Z0.1) fun t ht => ?_
  obtain ⟨u, rfl⟩ := fu 9 ht rfl
  rw [q392_0, g, kR_r]
theorem x405 (Z : hX a b C S l m) (T : hS2 b.1 m sa w) (hw : w.length ≤ 16) (hv : ∀ v, v ∈ w → v < 128) (hl : l.length + w.length ≤ gM b.2) (he : e.1 ≤ a) : ∃ m2, dN e (d + 7) 405 [.ref a, .ref sa] m = some (.inl (some (.ref a)), m2) ∧ hX a b C S (l ++ w) m2 ∧ frX a b m m2 := by
  obtain ⟨m2, g, h1, h2⟩ := x392 (e := e) (d := d) Z T hw hv hl he
  obtain ⟨p0, g0, w0, Z0⟩ := Z
  refine ⟨m2, ?_, h1, h2⟩
  refine en405 (t_c Z0.1) fun t ht => ?_
  obtain ⟨u, rfl⟩ := fu 9 ht rfl
  rw [q405_0, g, kR_r]
/-- a new text: empty, room for 16 -/
theorem x366 (he : e.1 ≤ m.2.1) : ∃ m2, dN e (d + 2) 366 [.ref m.2.1] (nO m 1 (dNf 1) (dDef 1)) = some (.inl none, m2) ∧ hX m.2.1 (fun q => q < m.2.1, 0) (m.2.1 + 6) (m.2.2 + 552) [] m2 ∧ (∀ q, q < m.2.1 → m2.1 q = m.1 q) ∧ m2.2 = (m.2.1 + 2, m.2.2 + 20) := by
  obtain ⟨m2, g, k1, B, hT⟩ := k366 (e := e) (d := d) (m := m) rfl he
  obtain ⟨b1, b2, b3⟩ := B
  have e1 : m2.2.1 = m.2.1 + 2 := by rw [b3]
  have e2 : m2.2.2 = m.2.2 + 20 := by rw [b3]
  refine ⟨m2, k1, ⟨m.2.1 + 1, 0, _, hT, fun i hi => absurd hi (Nat.not_lt_zero _), fun v hv => absurd hv List.not_mem_nil, ⟨Nat.lt_irrefl _, by show ¬ m.2.1 + 1 < m.2.1; omega⟩, by omega, fun q hq => hq, ⟨by omega, fun q hq => by have : q < m.2.1 := hq; omega⟩, Or.inl ⟨rfl, by omega⟩, by rw [e1]; show _ + (4 - 0) ≤ _; omega, by rw [e2]; show _ + 532 ≤ _; omega⟩, b2, b3⟩
/-- a String of the text's letters -/
theorem x393 (Z : hX a b C S l m) (he : e.1 ≤ a) : ∃ m2, dN e (d + 6) 393 [.ref a] m = some (.inl (some (.ref m.2.1)), m2) ∧ hS2 (fun q => m.2.1 ≤ q ∧ q < m2.2.1) m2 m.2.1 l ∧ (∀ q, q < m.2.1 → m2.1 q = m.1 q) ∧ m2.2 = (m.2.1 + 2, m.2.2 + (4 + l.length)) := by
  have hlen := hX.len Z
  have hM := hX_M Z
  obtain ⟨p, g, w, z1, z2, z3, z4, z5, z6, z7, z8, z9, z10⟩ := Z
  have z71 := z7.1
  have q1 := hT_c z1
  have hap : a ≤ p := hXp.le (⟨z1, z2, z3, z4, z5, z6, z7, z8, z9, z10⟩ : hXp a b C S l p g w m)
  -- the new object
  obtain ⟨m1, hm1⟩ : ∃ m1, m1 = nO m 0 4 (dDef 0) := ⟨_, rfl⟩
  have m1o : ∀ q, q ≠ m.2.1 → m1.1 q = m.1 q := fun q hq => by rw [hm1]; exact if_neg hq
  have m1n : m1.1 m.2.1 = some (.inr (0, dDef 0)) := by rw [hm1]; exact if_pos rfl
  have m12 : m1.2 = (m.2.1 + 1, m.2.2 + 4) := by rw [hm1]; rfl
  have zt1 : hT a m1 p (gL g) l.length w := by
    obtain ⟨F, f, f0, f1, f3, f4, f5, f6, f7⟩ := z1
    exact ⟨F, (m1o a (by omega)).trans f, f0, f1, f3, (m1o p (by omega)).trans f4, f5, f6, f7⟩
  -- its coder
  obtain ⟨m2, hm2⟩ : ∃ m2, m2 = dUp m1 m.2.1 (.inr (0, fun j => if j = 1 then .int (Int32.ofNat 0) else dDef 0 j)) := ⟨_, rfl⟩
  have s2 : pB e m1 m.2.1 0 1 (Int32.ofNat 0) = some m2 := by
    unfold pB pV
    rw [if_pos (by decide +kernel), m1n]
    simp only
    rw [if_pos ⟨trivial, by omega⟩, hm2]
  have m2o : ∀ q, q ≠ m.2.1 → m2.1 q = m.1 q := fun q hq => by rw [hm2, dUp_n hq]; exact m1o q hq
  have m2n : m2.1 m.2.1 = some (.inr (0, fun j => if j = 1 then .int (Int32.ofNat 0) else dDef 0 j)) := by rw [hm2, dUp_s]
  have m22 : m2.2 = (m.2.1 + 1, m.2.2 + 4) := by rw [hm2]; exact m12
  have m221 : m2.2.1 = m.2.1 + 1 := by rw [m22]
  have pN : m2.1 p = some (.inl (3, gL g, .inl w)) := (m2o p (by omega)).trans q1.2.2.2
  -- the array
  obtain ⟨m3, f3, k3, h3, o3, t3, v3⟩ : ∃ m3 f3, dN e (d + 3) 402 [.ref p, .int (Int32.ofNat 0), .int (Int32.ofNat l.length)] m2 = some (.inl (some (.ref (m.2.1 + 1))), m3) ∧ m3.1 (m.2.1 + 1) = some (.inl (3, l.length, .inl f3)) ∧ (∀ q, q ≠ m.2.1 + 1 → m3.1 q = m2.1 q) ∧ m3.2 = (m.2.1 + 2, m.2.2 + (4 + l.length)) ∧ ∀ i, i < l.length → f3 i = w i := by
    by_cases qf : l.length = gL g
    · obtain ⟨m3, hm3⟩ : ∃ m3 : dMem, m3 = (fun q => if q = m2.2.1 then some (.inl (3, gL g, .inl w)) else m2.1 q, m2.2.1 + 1, m2.2.2 + gL g) := ⟨_, rfl⟩
      have hcl : aCl e m2 p = some m3 := by
        unfold aCl
        rw [pN]
        simp only
        rw [if_pos (by omega), hm3]
      have m3n : m3.1 (m.2.1 + 1) = some (.inl (3, gL g, .inl w)) := by rw [hm3, ← m221]; exact if_pos rfl
      refine ⟨m3, w, ?_, by rw [m3n, qf], fun q hq => by rw [hm3]; exact if_neg (by omega), by rw [hm3, m22]; show (m.2.1 + 1 + 1, m.2.2 + 4 + gL g) = _; rw [qf, Nat.add_assoc, Nat.add_assoc], fun i _ => rfl⟩
      refine en402 fun t ht => ?_
      obtain ⟨u, rfl⟩ := fu 9 ht rfl
      have hB : isB e m3 m2.2.1 = true := by
        unfold isB
        rw [m221, m3n]
        exact Nat.ble_eq_true_of_le (by omega)
      have hN : aN m2 p = some (Int32.ofNat (gL g)) := by unfold aN; rw [pN]
      rw [q402_0, if_pos rfl, hN]
      simp only [bd_s]
      rw [if_pos (by rw [qf]), q402_2, hcl]
      simp only [bd_s]
      rw [hB, m221]
      rfl
    · obtain ⟨m3, hm3⟩ : ∃ m3, m3 = nA m2 3 l.length := ⟨_, rfl⟩
      have m3n : m3.1 (m.2.1 + 1) = some (.inl (3, l.length, .inl fun _ => 0)) := by rw [hm3, ← m221, nA_s]; rfl
      have m3p : m3.1 p = some (.inl (3, gL g, .inl w)) := by rw [hm3, nA_n (by omega)]; exact pN
      have hN3 : aN m3 p = some (Int32.ofNat (gL g)) := by unfold aN; rw [m3p]
      obtain ⟨m4, hm4⟩ : ∃ m4, m4 = dUp m3 (m.2.1 + 1) (.inl (3, l.length, .inl (dCp w (fun _ => 0) 0 0 l.length))) := ⟨_, rfl⟩
      have hcp : aCp e m3 p (Int32.ofNat 0) (m.2.1 + 1) (Int32.ofNat 0) (Int32.ofNat l.length) = some m4 := by
        unfold aCp
        rw [m3p, m3n]
        simp only
        rw [if_pos ⟨trivial, Or.inr trivial, by omega, by rw [nToI (by omega)]; omega, by rw [nToI (by omega)]; omega, by rw [nToI (by omega)]; omega, by rw [nToI (by omega), nToI (by omega)]; omega, by rw [nToI (by omega), nToI (by omega)]; omega⟩, nToN (by omega), nToN (by omega), hm4]
      have hmin : mMin (Int32.ofNat (gL g)) (Int32.ofNat l.length) = Int32.ofNat l.length := by
        rw [mMin_n (by omega) (by omega), Nat.min_eq_right q1.1]
      have k404 : dN e (d + 1) 404 [.int (Int32.ofNat 0), .int (Int32.ofNat l.length)] m2 = some (.inl none, m2) := by
        refine en404 fun t ht => ?_
        obtain ⟨u, rfl⟩ := fu 9 ht rfl
        rw [q404_0, if_neg (by rw [nLt (by omega) (by omega)]; omega), q404_1]
      have k403 : dN e (d + 2) 403 [.ref p, .int (Int32.ofNat 0), .int (Int32.ofNat l.length)] m2 = some (.inl (some (.ref (m.2.1 + 1))), m4) := by
        refine en403 fun t ht => ?_
        obtain ⟨u, rfl⟩ := fu 9 ht rfl
        rw [q403_0, k404, kV_r, nSub (Nat.zero_le _), Nat.sub_zero, nToI (by omega), if_pos (by omega), Int.toNat_natCast, ← hm3, hN3]
        simp only [bd_s]
        rw [nSub (Nat.zero_le _), Nat.sub_zero, hmin, m221, hcp]
        rfl
      refine ⟨m4, _, ?_, by rw [hm4, dUp_s], fun q hq => by rw [hm4, dUp_n hq, hm3, nA_n (by omega)], by rw [hm4]; show m3.2 = _; rw [hm3]; show (m2.2.1 + 1, m2.2.2 + l.length) = _; rw [m22, Nat.add_assoc, Nat.add_assoc], fun i hi => by unfold dCp; rw [if_pos ⟨Nat.zero_le _, by omega⟩, Nat.zero_add, Nat.sub_zero]⟩
      refine en402 fun t ht => ?_
      obtain ⟨u, rfl⟩ := fu 9 ht rfl
      have hN : aN m2 p = some (Int32.ofNat (gL g)) := by unfold aN; rw [pN]
      rw [q402_0, if_pos rfl, hN]
      simp only [bd_s]
      rw [if_neg (by rw [nEq (by omega) (by have := (gL_b z8).2.1; omega)]; exact qf), q402_1, k403, kR_r]
  have m3n : m3.1 m.2.1 = some (.inr (0, fun j => if j = 1 then .int (Int32.ofNat 0) else dDef 0 j)) := (o3 _ (by omega)).trans m2n
  obtain ⟨m4, hm4⟩ : ∃ m4, m4 = dUp m3 m.2.1 (.inr (0, fun t => if t = 0 then .ref (m.2.1 + 1) else if t = 1 then .int (Int32.ofNat 0) else dDef 0 t)) := ⟨_, rfl⟩
  have s4 : pR e m3 m.2.1 0 0 (m.2.1 + 1) = some m4 := by
    unfold pR pV
    rw [m3n]
    simp only
    rw [if_pos ⟨trivial, by omega⟩, hm4]
  have hc1 : isC m1 m.2.1 0 = true := by unfold isC; rw [m1n]; rfl
  have k398 : dN e (d + 3) 398 [.ref a] m1 = some (.inl (some (.ref p)), m1) := by
    refine en398 (t_c zt1) fun t ht => ?_
    obtain ⟨u, rfl⟩ := fu 9 ht rfl
    rw [q398_0, t_p zt1]
    rfl
  have k400 : dN e (d + 4) 400 [.ref m.2.1, .ref a, .null] m1 = some (.inl none, m4) := by
    refine en400 hc1 fun t ht => ?_
    obtain ⟨u, rfl⟩ := fu 9 ht rfl
    rw [q400_0, k398, kR_r, n370 (d := d + 1) zt1, kI_r, n380 (d := d + 2) zt1, kI_r, if_neg (by decide +kernel), s2]
    simp only [bd_s]
    rw [k3, kR_r, s4]
    simp only [bd_s]
    rw [q400_3]
  have k399 : dN e (d + 5) 399 [.ref m.2.1, .ref a] m1 = some (.inl none, m4) := by
    refine en399 hc1 fun t ht => ?_
    obtain ⟨u, rfl⟩ := fu 9 ht rfl
    rw [q399_0, k400, kV_r]
  have m42 : m4.2 = (m.2.1 + 2, m.2.2 + (4 + l.length)) := by rw [hm4]; exact t3
  have m421 : m4.2.1 = m.2.1 + 2 := by rw [m42]
  refine ⟨m4, ?_, ⟨⟨Nat.le_refl _, by omega⟩, m.2.1 + 1, _, f3, ⟨by omega, by omega⟩, by rw [hm4, dUp_s], rfl, rfl, by rw [hm4, dUp_n (by omega)]; exact h3, fun j hj => (v3 j hj).trans (z2 j hj)⟩, fun q hq => ?_, m42⟩
  · refine en393 (t_c z1) fun t ht => ?_
    obtain ⟨u, rfl⟩ := fu 9 ht rfl
    rw [q393_0]
    show kV (dN e (d + 5) 399 [.ref m.2.1, .ref a] (nO m 0 4 (dDef 0))) dPass _ = _
    rw [← hm1, k399, kV_r]
  · rw [hm4, dUp_n (by omega), o3 q (by omega), m2o q (by omega)]
end
end

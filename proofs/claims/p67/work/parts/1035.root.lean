/-! ===== the first relation ===== -/
noncomputable section
section
variable {e : dEnv} {d x n s c : Nat} {g h : Nat → dObj} {F : Nat → Value} {m m1 m2 : dMem}
/-- a block behind, and its reference in the first cell -/
theorem nxt {N s' k : Nat} (Z : BLD x n g s m m1) (hn : 0 < n) (h0 : g 0 = .inr (c, F)) (he : e.1 ≤ x) (C : BLD (x + n) N h s' m1 m2) : ∃ m3 g', pR e m2 x c k (x + n) = some m3 ∧ BLD x (n + N) g' (s + s') m m3 ∧ g' 0 = .inr (c, fun t => if t = k then .ref (x + n) else F t) ∧ (∀ q, x < q → q < x + n → m3.1 q = m1.1 q) ∧ (∀ q, x + n ≤ q → q < x + n + N → m3.1 q = m2.1 q) := by
  obtain ⟨m3, g3, B⟩ := (Z.then C).pr (e := e) (k := k) (q := x + n) (by omega) (by show (if 0 < n then g 0 else _) = _; rw [if_pos hn]; exact h0) he
  refine ⟨m3, _, g3, B, if_pos rfl, fun q h1 h2 => ?_, fun q h1 h2 => ?_⟩
  · obtain ⟨i, rfl⟩ : ∃ i, q = x + i := ⟨q - x, by omega⟩
    rw [B.1 i (by omega), Z.1 i (by omega)]
    show some (if i = 0 then _ else if i < n then g i else h (i - n)) = _
    rw [if_neg (by omega), if_pos (by omega)]
  · obtain ⟨i, rfl⟩ : ∃ i, q = x + n + i := ⟨q - (x + n), by omega⟩
    rw [show x + n + i = x + (n + i) by omega, B.1 (n + i) (by omega), show x + (n + i) = x + n + i by omega, C.1 i (by omega)]
    show some (if n + i = 0 then _ else if n + i < n then g (n + i) else h (n + i - n)) = _
    rw [if_neg (by omega), if_neg (by omega), show n + i - n = i by omega]
theorem hT_mem {a p L k : Nat} {w : Nat → Int32} (Z : hT a m1 p L k w) (h1 : m2.1 a = m1.1 a) (h2 : m2.1 p = m1.1 p) : hT a m2 p L k w := by
  obtain ⟨F, f1, f2, f3, f4, f5, f6, f7, f8⟩ := Z
  exact ⟨F, h1.trans f1, f2, f3, f4, h2.trans f5, f6, f7, f8⟩
theorem k87 (hb : m.2.1 = x) (he : e.1 ≤ x) : ∃ m', dN e (d + 4) 87 [.ref x] (nO m 9 (dNf 9) (dDef 9)) = some (.inl none, m') ∧ hSys x X0 XI X0 X0 (fun _ => X0) m' ∧ hT (x + 259) m' (x + 260) 16 0 (fun _ => Int32.ofNat 0) ∧ (∀ q, q < x → m'.1 q = m.1 q) ∧ m'.2 = (x + 261, m.2.2 + 7100) := by
  have B0 : BLD x 1 (fun _ => .inr (9, dDef 9)) 7 m (nO m 9 (dNf 9) (dDef 9)) := BLD_O hb
  have e0 : (nO m 9 (dNf 9) (dDef 9)).2.1 = x + 1 := by rw [B0.2.2]
  obtain ⟨m1, r1, C1⟩ := k58 (e := e) (d := d) e0 (by omega)
  obtain ⟨m2, g2, p2, B2, z2, l2, u2⟩ := nxt (e := e) (k := 0) B0 (by omega) rfl he C1
  have e2 : m2.2.1 = x + 26 := by rw [B2.2.2]
  obtain ⟨m3, r3, C3⟩ := k0_all (e := e) (d := d + 1) e2 (by omega)
  obtain ⟨m4, g4, p4, B4, z4, l4, u4⟩ := nxt (e := e) (k := 1) B2 (by omega) z2 he C3
  have e4 : m4.2.1 = x + 45 := by rw [B4.2.2]
  obtain ⟨m5, r5, C5⟩ := k0_all (e := e) (d := d + 1) e4 (by omega)
  obtain ⟨m6, g6, p6, B6, z6, l6, u6⟩ := nxt (e := e) (k := 2) B4 (by omega) z4 he C5
  have e6 : m6.2.1 = x + 64 := by rw [B6.2.2]
  obtain ⟨m7, g7, r7, C7, H7, A7⟩ := k43 (e := e) (d := d) e6 (by omega)
  obtain ⟨m8, g8, p8, B8, z8, l8, u8⟩ := nxt (e := e) (k := 3) B6 (by omega) z6 he C7
  have e8 : m8.2.1 = x + 218 := by rw [B8.2.2]
  obtain ⟨m9, g9, r9, C9, S9, A9⟩ := k85 (e := e) (d := d) e8 (by omega)
  obtain ⟨m10, g10, p10, B10, z10, l10, u10⟩ := nxt (e := e) (k := 4) B8 (by omega) z8 he C9
  have e10 : m10.2.1 = x + 259 := by rw [B10.2.2]
  obtain ⟨m11, g11, r11, C11, T11⟩ := k366 (e := e) (d := d + 1) e10 (by omega)
  obtain ⟨m12, g12, p12, B12, z12, l12, u12⟩ := nxt (e := e) (k := 5) B10 (by omega) z10 he C11
  have q10 : ∀ q, x < q → q < x + 259 → m12.1 q = m10.1 q := fun q h1 h2 => l12 q h1 h2
  have q8 : ∀ q, x < q → q < x + 218 → m12.1 q = m8.1 q := fun q h1 h2 => (q10 q h1 (by omega)).trans (l10 q h1 h2)
  have q6 : ∀ q, x < q → q < x + 64 → m12.1 q = m6.1 q := fun q h1 h2 => (q8 q h1 (by omega)).trans (l8 q h1 h2)
  have q4 : ∀ q, x < q → q < x + 45 → m12.1 q = m4.1 q := fun q h1 h2 => (q6 q h1 (by omega)).trans (l6 q h1 h2)
  have q2 : ∀ q, x < q → q < x + 26 → m12.1 q = m2.1 q := fun q h1 h2 => (q4 q h1 (by omega)).trans (l4 q h1 h2)
  have I1 : hB TI 6 (x + 1) XI m12 := fun i hi => by
    rw [q2 _ (by omega) (by omega), u2 _ (by omega) (by omega), C1.1 i (by omega)]
    show some (if i < 6 then _ else _) = _
    rw [if_pos hi]
  have D1 : hB TA 19 (x + 7) X0 m12 := fun i hi => by
    rw [q2 _ (by omega) (by omega), u2 _ (by omega) (by omega), show x + 7 + i = x + 1 + (6 + i) by omega, C1.1 (6 + i) (by omega)]
    show some (if 6 + i < 6 then _ else _) = _
    rw [if_neg (by omega), show 6 + i - 6 = i by omega]
  have A1 : hB TA 19 (x + 26) X0 m12 := fun i hi => by
    rw [q4 _ (by omega) (by omega), u4 _ (by omega) (by omega), C3.1 i hi]
  have F1 : hB TA 19 (x + 45) X0 m12 := fun i hi => by
    rw [q6 _ (by omega) (by omega), u6 _ (by omega) (by omega), C5.1 i hi]
  have H1 : hB TH 2 (x + 64) X0 m12 := hB_mem H7 (fun i hi => by rw [q8 _ (by omega) (by omega), u8 _ (by omega) (by omega)])
  have HA : ∀ j, j < 8 → hB TA 19 (x + 64 + 2 + 19 * j) X0 m12 := fun j hj => hB_mem (A7 j hj) (fun i hi => by rw [q8 _ (by omega) (by omega), u8 _ (by omega) (by omega)])
  have S1 : hB TS 3 (x + 218) X0 m12 := hB_mem S9 (fun i hi => by rw [q10 _ (by omega) (by omega), u10 _ (by omega) (by omega)])
  have SA : ∀ j, j < 2 → hB TA 19 (x + 218 + 3 + 19 * j) X0 m12 := fun j hj => hB_mem (A9 j hj) (fun i hi => by rw [q10 _ (by omega) (by omega), u10 _ (by omega) (by omega)])
  have R1 : hB TR 1 x X0 m12 := fun i hi => by
    have hi0 : i = 0 := by omega
    subst hi0
    rw [B12.1 0 (by omega), z12]
    refine congrArg (fun f => some (Sum.inr (9, f))) (funext fun k => ?_)
    match k with
    | 0 => rfl
    | 1 => rfl
    | 2 => rfl
    | 3 => rfl
    | 4 => rfl
    | 5 => rfl
    | k + 6 => rfl
  refine ⟨m12, ?_, ⟨R1, I1, H1, S1, fun i hi => ?_⟩, hT_mem T11 (u12 _ (by omega) (by omega)) (u12 _ (by omega) (by omega)), B12.2.1, B12.2.2⟩
  · rw [dN_at (j := 87) (as := [.ref x]) (m := nO m 9 (dNf 9) (dDef 9)) (ls := [some (.ref x)]) (B0.cc (by omega) rfl) rfl rfl rfl, dFu, q87_0, e0, r1, kV_r, p2, bd_s, e2, r3, kV_r, p4, bd_s, e4, r5, kV_r, p6, bd_s, e6, r7, kV_r, p8, bd_s, e8, r9, kV_r, p10, bd_s, e10, r11, kV_r, p12, bd_s]
  · have h3 : i = 0 ∨ i = 1 ∨ i = 2 ∨ (3 ≤ i ∧ i < 11) ∨ (11 ≤ i) := by omega
    rcases h3 with rfl | rfl | rfl | h3 | h3
    · exact A1
    · exact F1
    · exact D1
    · obtain ⟨j, rfl⟩ : ∃ j, i = 3 + j := ⟨i - 3, by omega⟩
      rw [oA_n (by omega), show x + (66 + 19 * j) = x + 64 + 2 + 19 * j by omega]
      exact HA j (by omega)
    · obtain ⟨j, rfl⟩ : ∃ j, i = 11 + j := ⟨i - 11, by omega⟩
      rw [oA_s (by omega), show x + (221 + 19 * j) = x + 218 + 3 + 19 * j by omega]
      exact SA j (by omega)
end
end

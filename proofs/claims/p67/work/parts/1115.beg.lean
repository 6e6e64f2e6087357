/-! ===== the World begins: its cells, the first words of its text (printed by wip/p67/wg5.py) ===== -/
noncomputable section
/-- the World's cells before its text is there -/
def W0 (e : dEnv) (x0 b0 l0 N : Nat) (f : Nat → Int32) (a w z : Nat) (F : Nat → Value) (m : dMem) : Prop := m.1 w = some (.inr (12, F)) ∧ (∀ i, 1 ≤ i → i < 7 → m.1 (w + i) = some (.inl (TWk i, TWn i, dDf (TWk i)))) ∧ m.2 = (w + 7, z) ∧ DRW b0 l0 N f a m ∧ hDig e x0 m ∧ hSt e x0 m ∧ x0 ≤ b0 ∧ b0 < w ∧ l0 < w ∧ e.1 ≤ x0
def fP (F : Nat → Value) (k : Nat) (v : Value) : Nat → Value := fun t => if t = k then v else F t
section
variable {e : dEnv} {d x0 b0 l0 N a w z : Nat} {f : Nat → Int32} {F : Nat → Value} {m : dMem}
theorem w0_c (Z : W0 e x0 b0 l0 N f a w z F m) : isC m w 12 = true := by
  unfold isC
  rw [Z.1]
  rfl
theorem w0_draw (Z : W0 e x0 b0 l0 N f a w z F m) {lo hi : Nat} (ha : a < 1000000) (h1 : lo ≤ hi) (h2 : hi < 1000000) : ∃ v m', dN e (d + 9) 164 [.ref b0, .int (Int32.ofNat lo), .int (Int32.ofNat hi)] m = rI (Int32.ofNat v) m' ∧ lo ≤ v ∧ v ≤ hi ∧ W0 e x0 b0 l0 N f (a + 1) w z F m' := by
  obtain ⟨z1, z2, z3, z4, z5, z6, z7, z8, z9, z10⟩ := Z
  obtain ⟨v, m', g, v1, v2, D, o, s⟩ := d_next (e := e) (d := d + 8) z4 (by omega) ha h1 h2
  refine ⟨v, m', g, v1, v2, ?_, fun i i1 i2 => ?_, s.trans z3, D, z5.fr (fun q h => o q (by omega)), z6.fr (fun q h => o q (by omega)), z7, z8, z9, z10⟩
  · rw [o w (by omega)]; exact z1
  · rw [o _ (by omega)]; exact z2 i i1 i2
theorem w0_pv (Z : W0 e x0 b0 l0 N f a w z F m) {k : Nat} {v : Value} : ∃ m', pV e m w 12 k v = some m' ∧ W0 e x0 b0 l0 N f a w z (fP F k v) m' := by
  obtain ⟨z1, z2, z3, z4, z5, z6, z7, z8, z9, z10⟩ := Z
  refine ⟨dUp m w (.inr (12, fP F k v)), ?_, dUp_s, fun i i1 i2 => ?_, z3, z4.fr (dUp_n (by omega)) (dUp_n (by omega)), z5.fr (fun q h => dUp_n (by omega)), z6.fr (fun q h => dUp_n (by omega)), z7, z8, z9, z10⟩
  · unfold pV
    rw [z1]
    simp only
    rw [if_pos ⟨trivial, by omega⟩]
    rfl
  · rw [dUp_n (by omega)]; exact z2 i i1 i2
theorem w0_p (Z : W0 e x0 b0 l0 N f a w z F m) {k v : Nat} : ∃ m', pI e m w 12 k (Int32.ofNat v) = some m' ∧ W0 e x0 b0 l0 N f a w z (fP F k (.int (Int32.ofNat v))) m' := w0_pv Z
theorem w0_g (Z : W0 e x0 b0 l0 N f a w z F m) {k v : Nat} (h : F k = .int (Int32.ofNat v)) : gI m w 12 k = some (Int32.ofNat v) := by
  unfold gI
  rw [Z.1]
  simp only [if_true]
  rw [h]
/-- the object with its six arrays -/
theorem w0_new (Dr : DRW b0 l0 N f 0 m) (dg : hDig e x0 m) (st : hSt e x0 m) (he : e.1 ≤ x0) (hb : x0 ≤ b0) (hbl : b0 < m.2.1) (hl : l0 < m.2.1) : ∃ m0 m1 m2 m3 m4 m5 m6, m0 = nO m 12 (dNf 12) (dDef 12) ∧ pR e (nA m0 0 8) m.2.1 12 5 m0.2.1 = some m1 ∧ pR e (nA m1 0 8) m.2.1 12 6 m1.2.1 = some m2 ∧ pR e (nA m2 0 6) m.2.1 12 7 m2.2.1 = some m3 ∧ pR e (nA m3 4 8) m.2.1 12 8 m3.2.1 = some m4 ∧ pR e (nA m4 6 24) m.2.1 12 9 m4.2.1 = some m5 ∧ pR e (nA m5 0 24) m.2.1 12 10 m5.2.1 = some m6 ∧ isC m0 m.2.1 12 = true ∧ W0 e x0 b0 l0 N f 0 m.2.1 (m.2.2 + 92) (fP (fP (fP (fP (fP (fP (dDef 12) 5 (.ref (m.2.1 + 1))) 6 (.ref (m.2.1 + 2))) 7 (.ref (m.2.1 + 3))) 8 (.ref (m.2.1 + 4))) 9 (.ref (m.2.1 + 5))) 10 (.ref (m.2.1 + 6))) m6 := by
  have B0 : BLD m.2.1 1 (fun _ => .inr (12, dDef 12)) 14 m (nO m 12 (dNf 12) (dDef 12)) := BLD_O rfl
  have he2 : e.1 ≤ m.2.1 := by omega
  obtain ⟨m1, g1, B1⟩ := B0.np (e := e) (kd := 0) (len := 8) (k := 5) (by omega) rfl he2
  obtain ⟨m2, g2, B2⟩ := B1.np (e := e) (kd := 0) (len := 8) (k := 6) (by omega) rfl he2
  obtain ⟨m3, g3, B3⟩ := B2.np (e := e) (kd := 0) (len := 6) (k := 7) (by omega) rfl he2
  obtain ⟨m4, g4, B4⟩ := B3.np (e := e) (kd := 4) (len := 8) (k := 8) (by omega) rfl he2
  obtain ⟨m5, g5, B5⟩ := B4.np (e := e) (kd := 6) (len := 24) (k := 9) (by omega) rfl he2
  obtain ⟨m6, g6, B6⟩ := B5.np (e := e) (kd := 0) (len := 24) (k := 10) (by omega) rfl he2
  have bl := B6.2.1
  refine ⟨_, m1, m2, m3, m4, m5, m6, rfl, g1, g2, g3, g4, g5, g6, B0.cc (by omega) rfl, ?_, fun i i1 i2 => ?_, ?_, Dr.fr (bl _ hbl) (bl _ hl), dg.fr (fun q h => bl q (by omega)), st.fr (fun q h => bl q (by omega)), hb, hbl, hl, he⟩
  · exact B6.1 0 (by omega)
  · rw [B6.1 i (by omega)]
    have h7 : i = 1 ∨ i = 2 ∨ i = 3 ∨ i = 4 ∨ i = 5 ∨ i = 6 := by omega
    rcases h7 with q | q | q | q | q | q <;> subst q <;> rfl
  · rw [B6.2.2]
end
/-- numbers of the World as it begins -/
def X0w (S P K R yr : Nat) : wX := fun i k => if i = 0 then (if k = 1 then Int32.ofNat S else if k = 2 then Int32.ofNat P else if k = 3 then Int32.ofNat K else if k = 4 then Int32.ofNat R else if k = 11 then Int32.ofNat yr else Int32.ofNat 0) else Int32.ofNat 0
def ad0 (w tx : Nat) : Nat → Nat := fun i => if i = 1000 then tx else w + i
theorem F0w {w tx S P K R yr : Nat} : fP (fP (fP (fP (fP (fP (fP (fP (fP (fP (fP (fP (dDef 12) 5 (.ref (w + 1))) 6 (.ref (w + 2))) 7 (.ref (w + 3))) 8 (.ref (w + 4))) 9 (.ref (w + 5))) 10 (.ref (w + 6))) 11 (.int (Int32.ofNat yr))) 1 (.int (Int32.ofNat S))) 2 (.int (Int32.ofNat P))) 3 (.int (Int32.ofNat K))) 4 (.int (Int32.ofNat R))) 0 (.ref tx) = aFl (TW 0) (ad0 w tx) (X0w S P K R yr) 0 := by
  funext k
  match k with
  | 0 => rfl
  | 1 => rfl
  | 2 => rfl
  | 3 => rfl
  | 4 => rfl
  | 5 => rfl
  | 6 => rfl
  | 7 => rfl
  | 8 => rfl
  | 9 => rfl
  | 10 => rfl
  | 11 => rfl
  | 12 => rfl
  | 13 => rfl
  | k + 14 => rfl
section
variable {e : dEnv} {d x0 b0 l0 N w z : Nat} {f : Nat → Int32} {m : dMem}
/-- the first words are told -/
theorem w_beg (Dr : DRW b0 l0 N f 0 m) (dg : hDig e x0 m) (st : hSt e x0 m) (he : e.1 ≤ x0) (hb : x0 ≤ b0) (hbl : b0 < m.2.1) (hl : l0 < m.2.1) (hw : w = m.2.1) : ∃ S P K R yr m', 1 ≤ S ∧ S ≤ 6 ∧ 1 ≤ P ∧ P ≤ 8 ∧ 1 ≤ K ∧ K ≤ 3 ∧ 1 ≤ R ∧ R ≤ 3 ∧ 1900 ≤ yr ∧ yr ≤ 2500 ∧ isC (nO m 12 (dNf 12) (dDef 12)) w 12 = true ∧ IC e x0 b0 l0 N f (w + 7) (ad0 w (w + 7)) S P K R yr (w + 14) (m.2.2 + 1722) 0 m' ∧ ∀ t, ∃ t', t ≤ t' ∧ runL e (dN e (d + 9)) 167 (t + 5) 0 [some (.ref w), some (.ref b0), none, none, none, none, none, none] [] (nO m 12 (dNf 12) (dDef 12)) = runL e (dN e (d + 9)) 167 t' 5 [some (.ref w), some (.ref b0), some (.int (Int32.ofNat 0)), none, none, none, none, none] [] m' := by
  subst hw
  obtain ⟨m0, m1, m2, m3, m4, m5, m6, hm0, g1, g2, g3, g4, g5, g6, hc, Z6⟩ := w0_new Dr dg st he hb hbl hl
  rw [← hm0]
  obtain ⟨v1, m7, g7, -, v1b, Z7⟩ := w0_draw (d := d) Z6 (lo := 0) (hi := 1) (by omega) (by omega) (by omega)
  generalize hw : m.2.1 = w at *
  have c8 : (Int32.ofNat 8).toInt.toNat = 8 := by decide +kernel
  have c6 : (Int32.ofNat 6).toInt.toNat = 6 := by decide +kernel
  have c24 : (Int32.ofNat 24).toInt.toNat = 24 := by decide +kernel
  have b8 : 0 ≤ (Int32.ofNat 8).toInt ∧ (Int32.ofNat 8).toInt ≤ 100000 := by decide +kernel
  have b6 : 0 ≤ (Int32.ofNat 6).toInt ∧ (Int32.ofNat 6).toInt ≤ 100000 := by decide +kernel
  have b24 : 0 ≤ (Int32.ofNat 24).toInt ∧ (Int32.ofNat 24).toInt ≤ 100000 := by decide +kernel
  have s0 : ∀ t, runL e (dN e (d + 9)) 167 (t + 1) 0 [some (.ref w), some (.ref b0), none, none, none, none, none, none] [] m0 = (if Int32.ofNat v1 = Int32.ofNat 0 then runL e (dN e (d + 9)) 167 t 2 [some (.ref w), some (.ref b0), none, none, none, none, none, none] [.int (Int32.ofNat 2500), .int (Int32.ofNat 1900), .ref b0, .ref w] m7 else runL e (dN e (d + 9)) 167 t 1 [some (.ref w), some (.ref b0), none, none, none, none, none, none] [.int (Int32.ofNat 1900), .ref b0, .ref w] m7) := by
    intro t
    rw [q167_0, if_pos b8, c8, g1, bd_s, if_pos b8, g2, bd_s, if_pos b6, c6, g3, bd_s, if_pos b8, g4, bd_s, if_pos b24, c24, g5, bd_s, if_pos b24, g6, bd_s, g7, kI_r]
  obtain ⟨hy, hy1, hy2, r0⟩ : ∃ hy, 1900 ≤ hy ∧ hy ≤ 2500 ∧ ∀ t, ∃ t', t ≤ t' ∧ runL e (dN e (d + 9)) 167 (t + 2) 0 [some (.ref w), some (.ref b0), none, none, none, none, none, none] [] m0 = runL e (dN e (d + 9)) 167 t' 2 [some (.ref w), some (.ref b0), none, none, none, none, none, none] [.int (Int32.ofNat hy), .int (Int32.ofNat 1900), .ref b0, .ref w] m7 := by
    by_cases q : v1 = 0
    · exact ⟨2500, by omega, by omega, fun t => ⟨t + 1, by omega, by rw [s0, if_pos (by rw [q])]⟩⟩
    · exact ⟨1990, by omega, by omega, fun t => ⟨t, Nat.le_refl _, by rw [s0, if_neg (by rw [nEq (by omega) (by omega)]; exact q), q167_1]⟩⟩
  obtain ⟨yr, m8, g8, y1, y2, Z8⟩ := w0_draw (d := d) Z7 (lo := 1900) (hi := hy) (by omega) (by omega) (by omega)
  obtain ⟨m9, g9, Z9⟩ := w0_p (v := yr) (k := 11) Z8
  obtain ⟨S, m10, g10, s1, s2, Z10⟩ := w0_draw (d := d) Z9 (lo := 1) (hi := 6) (by omega) (by omega) (by omega)
  obtain ⟨m11, g11, Z11⟩ := w0_p (v := S) (k := 1) Z10
  obtain ⟨v2, m12, g12, -, v2b, Z12⟩ := w0_draw (d := d) Z11 (lo := 0) (hi := 1) (by omega) (by omega) (by omega)
  have s2' : ∀ t, runL e (dN e (d + 9)) 167 (t + 1) 2 [some (.ref w), some (.ref b0), none, none, none, none, none, none] [.int (Int32.ofNat hy), .int (Int32.ofNat 1900), .ref b0, .ref w] m7 = (if Int32.ofNat v2 = Int32.ofNat 0 then runL e (dN e (d + 9)) 167 t 4 [some (.ref w), some (.ref b0), none, none, none, none, none, none] [.int (Int32.ofNat 8), .int (Int32.ofNat 1), .ref b0, .ref w] m12 else runL e (dN e (d + 9)) 167 t 3 [some (.ref w), some (.ref b0), none, none, none, none, none, none] [.int (Int32.ofNat 1), .ref b0, .ref w] m12) := by
    intro t
    rw [q167_2, g8, kI_r, g9, bd_s, g10, kI_r, g11, bd_s, g12, kI_r]
  obtain ⟨hp, hp1, hp2, r2⟩ : ∃ hp, 1 ≤ hp ∧ hp ≤ 8 ∧ ∀ t, ∃ t', t ≤ t' ∧ runL e (dN e (d + 9)) 167 (t + 2) 2 [some (.ref w), some (.ref b0), none, none, none, none, none, none] [.int (Int32.ofNat hy), .int (Int32.ofNat 1900), .ref b0, .ref w] m7 = runL e (dN e (d + 9)) 167 t' 4 [some (.ref w), some (.ref b0), none, none, none, none, none, none] [.int (Int32.ofNat hp), .int (Int32.ofNat 1), .ref b0, .ref w] m12 := by
    by_cases q : v2 = 0
    · exact ⟨8, by omega, by omega, fun t => ⟨t + 1, by omega, by rw [s2', if_pos (by rw [q])]⟩⟩
    · exact ⟨3, by omega, by omega, fun t => ⟨t, Nat.le_refl _, by rw [s2', if_neg (by rw [nEq (by omega) (by omega)]; exact q), q167_3]⟩⟩
  obtain ⟨P, m13, g13, p1, p2, Z13⟩ := w0_draw (d := d) Z12 (lo := 1) (hi := hp) (by omega) (by omega) (by omega)
  obtain ⟨m14, g14, Z14⟩ := w0_p (v := P) (k := 2) Z13
  obtain ⟨K, m15, g15, k1, k2, Z15⟩ := w0_draw (d := d) Z14 (lo := 1) (hi := 3) (by omega) (by omega) (by omega)
  obtain ⟨m16, g16, Z16⟩ := w0_p (v := K) (k := 3) Z15
  obtain ⟨R, m17, g17, r1, r2b, Z17⟩ := w0_draw (d := d) Z16 (lo := 1) (hi := 3) (by omega) (by omega) (by omega)
  obtain ⟨m18, g18, Z18⟩ := w0_p (v := R) (k := 4) Z17
  obtain ⟨z1, z2, z3, z4, z5, z6, z7, z8, z9, z10⟩ := Z18
  have e1 : m18.2.1 = w + 7 := by rw [z3]
  have e2 : m18.2.2 = m.2.2 + 92 := by rw [z3]
  obtain ⟨m19, g19, X19, o19⟩ := x391 (e := e) (d := d) (m := m18) (sa := e.2 15) ((z6 15 (by omega)).to2.mono (fun q h => by have h1 : q < x0 := h; show q < m18.2.1; omega)) (by omega)
  rw [e1] at X19 o19 g19
  have l15 : (wd 15).length = 8 := rfl
  have ly := dl4 (v := yr) (by omega)
  have lS := dl1 (v := S) (by omega)
  have D19 := z5.fr (fun q h => o19 q (by omega))
  have lo7 : ∀ q, q < w + 7 → (fun q => q < w + 7) q := fun q h => h
  obtain ⟨m20, g20, X20, o20⟩ := x368g (e := e) (d := d + 4) (x := x0) X19 (v := yr) (by show (wd 15).length + 6 ≤ gM 10; decide) (by omega) D19 (by omega) (by omega)
  have D20 := D19.fr (fun q h => o20 q (show q < w + 7 by omega))
  obtain ⟨m21, g21, X21, o21⟩ := x367g (e := e) (d := d + 4) X20 (by show (wd 15 ++ dig yr).length + 6 < 830; rw [List.length_append]; omega) (v := 32) (by omega) (by omega)
  have D21 := D20.fr (fun q h => o21 q (show q < w + 7 by omega))
  obtain ⟨m22, g22, X22, o22⟩ := x368g (e := e) (d := d + 4) (x := x0) X21 (v := S) (by show (wd 15 ++ dig yr ++ [32]).length + 6 ≤ 830; simp only [List.length_append, List.length_cons, List.length_nil]; omega) (by omega) D21 (by omega) (by omega)
  have D22 := D21.fr (fun q h => o22 q (show q < w + 7 by omega))
  obtain ⟨m23, g23, X23, o23⟩ := x367g (e := e) (d := d + 4) X22 (by show (wd 15 ++ dig yr ++ [32] ++ dig S).length + 6 < 830; simp only [List.length_append, List.length_cons, List.length_nil]; omega) (v := 32) (by omega) (by omega)
  have D23 := D22.fr (fun q h => o23 q (show q < w + 7 by omega))
  obtain ⟨m24, g24, X24, o24⟩ := x368g (e := e) (d := d + 4) (x := x0) X23 (v := P) (by show (wd 15 ++ dig yr ++ [32] ++ dig S ++ [32]).length + 6 ≤ 830; simp only [List.length_append, List.length_cons, List.length_nil]; omega) (by omega) D23 (by omega) (by omega)
  have D24 := D23.fr (fun q h => o24 q (show q < w + 7 by omega))
  have oA : ∀ q, q < w + 7 → m24.1 q = m18.1 q := fun q h => (o24 q h).trans ((o23 q h).trans ((o22 q h).trans ((o21 q h).trans ((o20 q h).trans (o19 q h)))))
  -- fields read while the text is made
  have rd : ∀ {m' : dMem} {k v : Nat}, (∀ q, q < w + 7 → m'.1 q = m18.1 q) → gI m18 w 12 k = some (Int32.ofNat v) → gI m' w 12 k = some (Int32.ofNat v) := by
    intro m' k v h1 h2
    unfold gI at h2 ⊢
    rw [h1 w (by omega)]
    exact h2
  have Z18 : W0 e x0 b0 l0 N f _ w _ _ m18 := ⟨z1, z2, z3, z4, z5, z6, z7, z8, z9, z10⟩
  have f11 : gI m19 w 12 11 = some (Int32.ofNat yr) := rd o19 (w0_g Z18 rfl)
  have f1 : gI m21 w 12 1 = some (Int32.ofNat S) := rd (fun q h => (o21 q h).trans ((o20 q h).trans (o19 q h))) (w0_g Z18 rfl)
  have f2 : gI m23 w 12 2 = some (Int32.ofNat P) := rd (fun q h => (o23 q h).trans ((o22 q h).trans ((o21 q h).trans ((o20 q h).trans (o19 q h))))) (w0_g Z18 rfl)
  obtain ⟨m25, hm25⟩ : ∃ m25, m25 = dUp m24 w (.inr (12, aFl (TW 0) (ad0 w (w + 7)) (X0w S P K R yr) 0)) := ⟨_, rfl⟩
  have g25 : pR e m24 w 12 0 (w + 7) = some m25 := by
    unfold pR pV
    rw [oA w (by omega), z1]
    simp only
    rw [if_pos ⟨trivial, by omega⟩, hm25, ← F0w]
    rfl
  have o25 : ∀ q, q ≠ w → m25.1 q = m24.1 q := fun q h => by rw [hm25]; exact dUp_n h
  have lt24 := X24.pr.2.1
  have ai : ∀ i, i < 7 + 2 * 0 → ad0 w (w + 7) i = w + i := fun i hi => if_neg (by omega)
  have X25 : hX (w + 7) (fun q => q < w + 7, 10) (w + 14) (m.2.2 + 1722) (wd 15 ++ dig yr ++ [32] ++ dig S ++ [32] ++ dig P) m25 := (X24.kp (m2 := m25) (c := 0) (z := 0) (fG.eq (by rw [hm25]; rfl)) (fun q h1 h2 => o25 q (fun z => h2 (show q < w + 7 by omega)))).le1 (by omega) (by omega)
  have hlS := dl1 (v := P) (by omega)
  refine ⟨S, P, K, R, yr, m25, s1, s2, p1, by omega, k1, k2, r1, r2b, y1, by omega, hc, ⟨_, (fun q => q < w + 7, 10), _, _, X0w S P K R yr, WG.of (w := ⟨fun i j hi hj q => ?_, fun i hi => ?_, fun i hi => ?_, fun i hi => ?_⟩) (fr := W1_fr) (t := if_pos rfl) (x := X25) (kk := rfl) (dg := D24.fr (fun q h => o25 q (by omega))) (st := z6.fr (fun q h => (o25 q (by omega)).trans (oA q (by omega)))) (dr := z4.fr ((o25 _ (by omega)).trans (oA _ (by omega))) ((o25 _ (by omega)).trans (oA _ (by omega)))) (pl := fun i hi => ?_) (pb := ⟨by show b0 < w + 7; omega, by show l0 < w + 7; omega⟩) (px := ⟨by omega, z10, z7⟩), ⟨rfl, rfl, rfl, rfl, rfl, rfl, rfl⟩, TLD_0 s1 s2 p1 (by omega), fun c hc => absurd hc (Nat.not_lt_zero _), ?_, ?_, by omega⟩, fun t => ?_⟩
  · rw [ai i hi, ai j hj] at q
    omega
  · rw [ai i hi]
    omega
  · rw [ai i hi, hm25]
    show w + i < m24.2.1
    omega
  · rw [ai i hi]
    by_cases q : i = 0
    · subst q
      show m25.1 w = _
      rw [hm25, dUp_s]
      rfl
    · rw [o25 _ (by omega), oA _ (by omega), z2 i (by omega) (by omega)]
      have h7 : i = 1 ∨ i = 2 ∨ i = 3 ∨ i = 4 ∨ i = 5 ∨ i = 6 := by omega
      rcases h7 with q | q | q | q | q | q <;> subst q <;> rfl
  · rw [ai i hi]
    exact ⟨by show w + i < w + 7; omega, by omega, by omega, by omega⟩
  · have e3 : wd 15 ++ dig yr ++ [32] ++ dig S ++ [32] ++ dig P = wd 0 ++ 32 :: (dig yr ++ 32 :: (dig S ++ 32 :: dig P)) := by
      rw [show wd 15 = wd 0 ++ [32] from rfl]
      simp only [List.append_assoc, List.cons_append, List.nil_append]
    rw [e3]
    exact PT_head y1 (by omega) s1 s2 p1 (by omega)
  · simp only [List.length_append, List.length_cons, List.length_nil]
    omega
  · obtain ⟨t1, a1, b1⟩ := r0 (t + 3)
    obtain ⟨u1, rfl⟩ : ∃ u, t1 = u + 3 := ⟨t1 - 3, by omega⟩
    obtain ⟨t2, a2, b2⟩ := r2 (u1 + 1)
    obtain ⟨u2, rfl⟩ : ∃ u, t2 = u + 1 := ⟨t2 - 1, by omega⟩
    refine ⟨u2, by omega, ?_⟩
    rw [b1, b2, q167_4, g13, kI_r, g14, bd_s, g15, kI_r, g16, bd_s, g17, kI_r, g18, bd_s, e1, g19, kV_r, f11, bd_s, g20, kR_r, g21, kR_r, f1, bd_s, g22, kR_r, g23, kR_r, f2, bd_s, g24, kR_r, g25, bd_s]
end
end

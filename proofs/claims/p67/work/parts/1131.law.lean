/-! ===== the law, run ===== -/
noncomputable section
section
variable {e : dEnv} {d x0 x b0 l0 N a C SS nb Y S P K R k yr n w : Nat} {f : Nat → Int32} {bb : xB} {l : List Nat} {ad : Nat → Nat} {h s : sV} {m m2 m3 m6 : dMem}
/-- the object that draws -/
theorem k163 (hl : l0 < m.2.1) (he : e.1 ≤ m.2.1) (sc : m.1 l0 = some (.inl (0, N, .inl f))) (hN : N ≤ 1000) : ∃ m', dN e (d + 1) 163 [.ref m.2.1, .ref l0] (nO m 11 (dNf 11) (dDef 11)) = some (.inl none, m') ∧ DRW m.2.1 l0 N f 0 m' ∧ (∀ q, q < m.2.1 → m'.1 q = m.1 q) ∧ m'.2 = (m.2.1 + 1, m.2.2 + 2) := by
  obtain ⟨mo, hmo⟩ : ∃ mo, mo = nO m 11 (dNf 11) (dDef 11) := ⟨_, rfl⟩
  have o1 : mo.1 m.2.1 = some (.inr (11, dDef 11)) := by rw [hmo]; exact if_pos rfl
  have o2 : ∀ q, q < m.2.1 → mo.1 q = m.1 q := fun q hq => by rw [hmo]; exact if_neg (by omega)
  have o3 : mo.2 = (m.2.1 + 1, m.2.2 + 2) := by rw [hmo]; rfl
  have hc : isC mo m.2.1 11 = true := by
    unfold isC
    rw [o1]
    rfl
  refine ⟨dUp mo m.2.1 (.inr (11, fP (dDef 11) 0 (.ref l0))), ?_, ⟨fP (dDef 11) 0 (.ref l0), dUp_s, rfl, rfl, ?_, by omega, hN⟩, fun q hq => (dUp_n (by omega)).trans (o2 q hq), o3⟩
  · rw [← hmo]
    refine en163 hc fun t ht => ?_
    obtain ⟨u, rfl⟩ := fu 9 ht rfl
    rw [q163_0]
    unfold pR pV
    rw [o1]
    simp only
    rw [if_pos ⟨trivial, he⟩, bd_s]
    rfl
  · rw [dUp_n (by omega), o2 l0 hl]
    exact sc
/-- World and object, for the first time -/
theorem g_first (G : WG e x0 b0 l0 N f a (w + 7) bb C SS l nb ad (WST e nb Y ad h s) m2) (hw : ad 0 = w) (Q : RNG h s S P K R yr) (hx : m2.2.1 = x) (T : hT (x + 259) m3 (x + 260) 16 0 (fun _ => Int32.ofNat 0)) (F3 : ∀ q, q < x → m3.1 q = m2.1 q) (F6 : ∀ q, q < x ∨ q = x + 259 ∨ q = x + 260 → m6.1 q = m3.1 q) (hm : x + 261 ≤ m6.2.1) (Kc : CLA e x Y h s m6) : GE e x0 x b0 l0 N f w h (m6.2.1 + 4) (m6.2.2 + 532) a Y s m6 := by
  have px := G.px
  have pr := G.x.pr
  have pb := G.pb
  have lt : ∀ q, bb.1 q → q < x := fun q hq => by have := pr.2.2.1 q hq; omega
  have FF : ∀ q, q < x → m6.1 q = m2.1 q := fun q hq => (F6 q (Or.inl hq)).trans (F3 q hq)
  have hb := lt _ pb.1
  have hl := lt _ pb.2
  have hyr : yr ≤ Y := by
    have h1 := G.w.ws.1.2.2.1.2.2
    have h2 := Q.nn.2.2.2.2.2.1
    omega
  have Z : hX (x + 259) ((fun q => q < m6.2.1 ∧ q ≠ x + 259 ∧ q ≠ x + 260), 0) (m6.2.1 + 4) (m6.2.2 + 532) [] m6 := ⟨x + 260, 0, fun _ => Int32.ofNat 0, hT_mem T (F6 _ (by omega)) (F6 _ (by omega)), fun i hi => absurd hi (Nat.not_lt_zero _), fun v hv => absurd hv List.not_mem_nil, ⟨fun z => z.2.1 rfl, fun z => z.2.2 rfl⟩, by omega, fun q hq => ⟨by omega, by omega, by omega⟩, ⟨by omega, fun q hq => hq.1⟩, Or.inl ⟨rfl, by omega⟩, Nat.le_refl _, Nat.le_refl _⟩
  refine ⟨_, [], nb, ad, yr, ⟨G.w.fr (fun i hi => FF _ (lt _ (G.pl i hi).1)) (fun i hi => by have := lt _ (G.pl i hi).1; omega), Kc, Z, Nat.zero_le _, G.dg.fr (fun q hq => FF q (by omega)), G.st.fr (fun q hq => FF q (by omega)), G.dr.fr (FF _ hb) (FF _ hl), fun i hi => ?_, ⟨hb, hl⟩, px.2.1, px.2.2, by omega⟩, hw, Q.2.2.2.2.2.2.2.2.2.1, Q.2.2.2.2.2.2.2.2.2.2.1, hyr⟩
  have p := G.pl i hi
  have q := lt _ p.1
  exact ⟨⟨by omega, by omega, by omega⟩, Or.inl q, p.2.1, p.2.2.1, p.2.2.2⟩
/-- six acts -/
theorem l_acts (Q : QR h S P K R) {v : Int32} : ∀ n k C SS a Y s m, k + n = 6 → GE e x0 x b0 l0 N f w h C SS a Y s m → Y + 50 * n ≤ 4500 → a + 10 * n ≤ 500000 → ∃ m' s' a' Y', GE e x0 x b0 l0 N f w h (C + 12 * n) (SS + 120 * n) a' Y' s' m' ∧ a' ≤ a + 10 * n ∧ Y' ≤ Y + 50 * n ∧ ∀ t, runL e (dN e (d + 20)) 365 (t + 2 * n + 1) 6 [none, some (.ref b0), some (.ref w), some (.ref x), some (.int v), some (.int (Int32.ofNat k))] [] m = runL e (dN e (d + 20)) 365 t 8 [none, some (.ref b0), some (.ref w), some (.ref x), some (.int v), none] [] m' := by
  intro n
  induction n with
  | zero =>
    intro k C SS a Y s m hk I hY ha
    refine ⟨m, s, a, Y, I, by omega, by omega, fun t => ?_⟩
    rw [Nat.mul_zero, Nat.add_zero, q365_6, if_neg (by rw [nLt (by omega) (by omega)]; omega)]
  | succ n ih =>
    intro k C SS a Y s m hk I hY ha
    obtain ⟨m1, s1, a1, Y1, g1, I1, ha1, hY1⟩ := g_act (d := d) I Q (by omega) (by omega)
    obtain ⟨m', s', a', Y', I', ha', hY', g'⟩ := ih (k + 1) _ _ a1 Y1 s1 m1 (by omega) I1 (by omega) (by omega)
    rw [show C + 12 + 12 * n = C + 12 * (n + 1) by omega, show SS + 120 + 120 * n = SS + 120 * (n + 1) by omega] at I'
    refine ⟨m', s', a', Y', I', by omega, by omega, fun t => ?_⟩
    rw [show t + 2 * (n + 1) + 1 = (t + 2 * n + 1) + 1 + 1 by omega, q365_6, if_pos (by rw [nLt (by omega) (by omega)]; omega), g1, kI_r, if_neg (by decide +kernel), q365_7, nAdd, g']
/-- the rounds -/
theorem l_rounds (Q : QR h S P K R) : ∀ n C SS a Y s m, n ≤ 3 → GE e x0 x b0 l0 N f w h C SS a Y s m → Y + 300 * n ≤ 4500 → a + 60 * n ≤ 499000 → ∃ m', m'.2.1 ≤ C + 600 * n ∧ m'.2.2 ≤ SS + 40000 * n ∧ ∀ t, runL e (dN e (d + 20)) 365 (t + 20 * n + 2) 5 [none, some (.ref b0), some (.ref w), some (.ref x), some (.int (Int32.ofNat n)), none] [] m = rI (bI true) m' := by
  intro n
  induction n with
  | zero =>
    intro C SS a Y s m hn I hY ha
    obtain ⟨bb, l, nb, ad, yr, G, -⟩ := I
    have pr := G.t.pr
    refine ⟨m, by omega, by omega, fun t => ?_⟩
    rw [Nat.mul_zero, Nat.add_zero, q365_5, if_neg (by rw [nLt (by omega) (by omega)]; omega), q365_11, rZ_1]
  | succ n ih =>
    intro C SS a Y s m hn I hY ha
    have hY' : Y + 50 * 6 ≤ 4500 := Nat.le_trans (Nat.add_le_add_left (Nat.le_mul_of_pos_right 300 (Nat.succ_pos n)) Y) hY
    obtain ⟨m1, s1, a1, Y1, I1, ha1, hY1, g1⟩ := l_acts (d := d) Q (v := Int32.ofNat (n + 1)) 6 0 C SS a Y s m rfl I hY' (by omega)
    have hY2 : Y1 + 100 ≤ 1000000 := Nat.le_trans (Nat.add_le_add_right (Nat.le_trans hY1 hY') 100) (by decide)
    obtain ⟨m2, g2, I2⟩ := g_like (d := d) I1 Q
    obtain ⟨m3, g3, I3⟩ := g_places (d := d) I2 Q
    obtain ⟨m4, g4, I4⟩ := g_boxes (d := d) I3 Q hY2
    obtain ⟨m5, g5, I5⟩ := g_names (d := d) I4 Q
    obtain ⟨m', c1, c2, g'⟩ := ih _ _ a1 Y1 s1 m5 (by omega) I5 (by omega) (by omega)
    refine ⟨m', by omega, by omega, fun t => ?_⟩
    have hn1 : Int32.ofNat (n + 1) + nM1 = Int32.ofNat n := by
      have : n = 0 ∨ n = 1 ∨ n = 2 := by omega
      rcases this with z | z | z <;> subst z <;> decide +kernel
    have z1 : ¬ bI true = Int32.ofNat 0 := by decide +kernel
    rw [show t + 20 * (n + 1) + 2 = (t + 4 + 20 * n + 2 + 1 + 1 + 2 * 6 + 1) + 1 by omega, q365_5, if_pos (by rw [nLt (by omega) (by omega)]; omega), g1, q365_8, g2, kI_r, if_neg z1, g3, kI_r, if_neg z1, g4, kI_r, if_neg z1, g5, kI_r, if_neg z1, q365_10, hn1, g']
/-- the law answers true -/
theorem law_run (hl : l0 < m.2.1) (he : e.1 ≤ m.2.1) (sc : m.1 l0 = some (.inl (0, N, .inl f))) (hN : N ≤ 1000) (D0 : hDig e m.2.1 m) (St0 : hSt e m.2.1 m) : ∃ mF, runL e (dN e (d + 20)) 365 dFuel 0 [some (.ref l0), none, none, none, none, none] [] m = rI (bI true) mF ∧ mF.2.1 ≤ m.2.1 + 5000 ∧ mF.2.2 ≤ m.2.2 + 200000 := by
  obtain ⟨m1, r1, D1, L1, C1⟩ := k163 (e := e) (d := d + 19) hl he sc hN
  have e1 : m1.2.1 = m.2.1 + 1 := by rw [C1]
  have s1 : m1.2.2 = m.2.2 + 2 := by rw [C1]
  obtain ⟨m2, a, bb, l, nb, ad, h, s, y, n, S, P, K, R, yr, r2, G, hw, Q, PP, n30, l450, a160, y20, nb9⟩ := w_world (e := e) (d := d + 10) (x0 := m.2.1) (b0 := m.2.1) (w := m1.2.1) D1 (D0.fr L1) (St0.fr L1) he (Nat.le_refl _) (by omega) (by omega) rfl
  obtain ⟨x, hx⟩ : ∃ x, x = m2.2.1 := ⟨_, rfl⟩
  have prX := G.x.pr
  have px := G.px
  have hxw : m1.2.1 + 7 < x := by omega
  have hxC : x ≤ m1.2.1 + 200 := by omega
  have pb := G.pb
  have bx' : ∀ q, bb.1 q → q < x := fun q hq => by have := prX.2.2.1 q hq; omega
  have hex : e.1 ≤ x := by omega
  obtain ⟨m3, r3, Z3, T3, L3, C3⟩ := k87 (e := e) (d := d + 16) (m := m2) (x := x) hx.symm hex
  have Q2 : QR h S P K R := ⟨Q.1, Q.2.1, Q.2.2.1, Q.2.2.2.1, Q.2.2.2.2.1, Q.2.2.2.2.2.1, Q.2.2.2.2.2.2.1, Q.2.2.2.2.2.2.2.1, Q.2.2.2.2.2.2.2.2.1⟩
  have W2 := G.w
  -- calls that are refused
  have hA3 : ∀ mm : dMem, mm.1 = m3.1 → hSys x X0 XI X0 X0 (fun _ => X0) mm := fun mm hh => hSys_1 Z3 hh
  obtain ⟨m4, hm4⟩ : ∃ m4, m4 = mTh (mTh (mTh (mTh (mTh m3)))) := ⟨_, rfl⟩
  have z6 : X0.1 0 6 = Int32.ofNat 0 := rfl
  have K0 : HisOK X0 0 0 := ⟨rfl, by omega, rfl, by omega⟩
  have c1 : dN e (d + 20) 191 [.ref x, .int (Int32.ofNat 0), .int (Int32.ofNat 0), .int (Int32.ofNat 0)] m3 = rI (Int32.ofNat 1) (mTh m3) := th0 (D := d + 17) (Or.inl rfl) (a93_1 (d := d + 12) (hA3 m3 rfl).1 ((hA3 m3 rfl).2.2.2.2 0 (by omega)) z6)
  have c2 : dN e (d + 20) 191 [.ref x, .int (Int32.ofNat 7), .int (Int32.ofNat 1), .int (Int32.ofNat 0)] (mTh m3) = rI (Int32.ofNat 1) (mTh (mTh m3)) := th7 (D := d + 17) (Or.inl rfl) (r139_1 (d := d + 9) (hA3 (mTh m3) rfl).1 ((hA3 (mTh m3) rfl).2.2.2.2 0 (by omega)) z6)
  have c3 : dN e (d + 20) 191 [.ref x, .int (Int32.ofNat 16), .int (Int32.ofNat 0), .int (Int32.ofNat 0)] (mTh (mTh m3)) = rI (Int32.ofNat 1) (mTh (mTh (mTh m3))) := th16 (D := d + 17) (Or.inl rfl) (b148_1 (d := d + 9) (hA3 (mTh (mTh m3)) rfl) K0)
  have c4 : dN e (d + 20) 191 [.ref x, .int (Int32.ofNat 12), .int (Int32.ofNat 0), .int (Int32.ofNat 0)] (mTh (mTh (mTh m3))) = rI (Int32.ofNat 1) (mTh (mTh (mTh (mTh m3)))) := th12 (D := d + 17) (Or.inl rfl) (r143_1 (d := d + 9) (hA3 (mTh (mTh (mTh m3))) rfl).1 ((hA3 (mTh (mTh (mTh m3))) rfl).2.2.2.2 0 (by omega)) z6)
  have t33 : hT (x + 259) (mTh (mTh (mTh (mTh m3)))) (x + 260) 16 0 (fun _ => Int32.ofNat 0) := hT_mem T3 rfl rfl
  have xm : x + 261 ≤ m3.2.1 := by rw [C3]; exact Nat.le_refl _
  have hX3 : hX (x + 259) ((fun q => q < x + 259), 0) (m3.2.1 + 8) (m3.2.2 + 556) [] (mTh (mTh (mTh (mTh m3)))) := ⟨x + 260, 0, fun _ => Int32.ofNat 0, t33, fun i hi => absurd hi (Nat.not_lt_zero _), fun v hv => absurd hv List.not_mem_nil, ⟨Nat.lt_irrefl _, by show ¬ x + 260 < x + 259; omega⟩, by show x + 260 < m3.2.1 + 1 + 1 + 1 + 1; omega, fun q hq => hq, ⟨by show x + 259 < m3.2.1 + 1 + 1 + 1 + 1; omega, fun q hq => by have : q < x + 259 := hq; show q < m3.2.1 + 1 + 1 + 1 + 1; omega⟩, Or.inl ⟨rfl, by omega⟩, by show m3.2.1 + 1 + 1 + 1 + 1 + (4 - 0) ≤ _; omega, by show m3.2.2 + 6 + 6 + 6 + 6 + 532 ≤ _; omega⟩
  have c5 : dN e (d + 20) 191 [.ref x, .int (Int32.ofNat 11), .int (Int32.ofNat 0), .int (Int32.ofNat 0)] (mTh (mTh (mTh (mTh m3)))) = rI (Int32.ofNat 2) m4 := by
    rw [hm4]
    exact th11 (D := d + 17) (Or.inr (Or.inl rfl)) (a138_1 (d := d + 14) (hA3 (mTh (mTh (mTh (mTh m3)))) rfl).1 hX3 (by show 0 ≤ 300; omega) (by decide +kernel))
  have m4c : m4.1 = m3.1 := by rw [hm4]; rfl
  have m41 : m4.2.1 = x + 266 := by rw [hm4]; show m3.2.1 + 1 + 1 + 1 + 1 + 1 = _; rw [C3]
  have m42 : m4.2.2 = m2.2.2 + 7130 := by rw [hm4]; show m3.2.2 + 6 + 6 + 6 + 6 + 6 = _; rw [C3]
  have S4 := hA3 m4 m4c
  have c6 : dN e (d + 20) 149 [.ref x] m4 = rI (Int32.ofNat 0) m4 := b149 (d := d + 12) S4 K0
  have F4 : ∀ q, q < x → m4.1 q = m2.1 q := fun q hq => by rw [m4c]; exact L3 q hq
  -- the text
  have X4 : hX (m1.2.1 + 7) bb _ _ l m4 := G.x.kp (c := 266) (z := 7130) ⟨by omega, by omega, by omega⟩ (fun q h1 h2 => F4 q (by omega))
  obtain ⟨m5, g5, T5, L5, C5⟩ := x393 (e := e) (d := d + 14) X4 (by omega)
  have e5 : m5.2.1 = m4.2.1 + 2 := by rw [C5]
  have s5 : m5.2.2 = m4.2.2 + (4 + l.length) := by rw [C5]
  have S5 : hSys x X0 XI X0 X0 (fun _ => X0) m5 := sys_eq S4 (fun q h1 h2 => L5 q (by omega))
  have St5 : hSt e x m5 := fun k hk => by
    obtain ⟨z1, v, F, g, z2, z3⟩ := G.st k hk
    have l1 := (L5 (e.2 k) (by omega)).trans (F4 _ (by omega))
    have l2 := (L5 v (by omega)).trans (F4 _ (by omega))
    exact ⟨by omega, v, F, g, by omega, l1.trans z3.1, z3.2.1, z3.2.2.1, l2.trans z3.2.2.2.1, z3.2.2.2.2⟩
  obtain ⟨m6, R6, I6, H6, S6', A6, g6, S6, p1, p2, K6, F6, C6⟩ := t_tell (e := e) (d := d + 3) hex S5 K0 rfl (by omega) (T5.mono (fun q hq => ⟨by omega, by omega⟩)) l450 (G.x.asc) St5 PP
  have e6 : m6.2.1 = m5.2.1 + 1 := by rw [C6]
  have s6 : m6.2.2 = m5.2.2 + 5 := by rw [C6]
  have I : GE e m.2.1 x m.2.1 l0 N f m1.2.1 h (m6.2.1 + 4) (m6.2.2 + 532) a (2500 + y) s m6 := g_first G hw Q hx.symm T3 L3 (fun q hq => by
    rw [F6 q (by omega), L5 q (by omega), m4c]) (by omega) K6
  obtain ⟨m7, g7, I7⟩ := g_like (d := d) I Q2
  obtain ⟨n8, m8, g8, n81, n83, I8⟩ : ∃ v m8, dN e (d + 20) 164 [.ref m.2.1, .int (Int32.ofNat 1), .int (Int32.ofNat 3)] m7 = rI (Int32.ofNat v) m8 ∧ 1 ≤ v ∧ v ≤ 3 ∧ GE e m.2.1 x m.2.1 l0 N f m1.2.1 h (m6.2.1 + 4 + 4) (m6.2.2 + 532 + 24) (a + 1) (2500 + y) s m8 := by
    obtain ⟨bb7, l7, nb7, ad7, yr7, G7, q1, q2, q3, q4⟩ := I7
    obtain ⟨v, m8, g, v1, v2, G8⟩ := g_draw (d := d + 19) G7 (lo := 1) (hi := 3) (by omega) (by omega) (by omega)
    exact ⟨v, m8, g, v1, v2, bb7, l7, nb7, ad7, yr7, G8, q1, q2, q3, q4⟩
  obtain ⟨mF, f1, f2, gF⟩ := l_rounds (d := d) Q2 n8 _ _ _ _ _ m8 n83 I8 (by omega) (by omega)
  have W4 : WST e nb (2500 + y) ad h s m4 := W2.fr (fun i hi => F4 _ (bx' _ (G.pl i hi).1)) (fun i hi => by have := bx' _ (G.pl i hi).1; omega)
  have W6 : WST e nb (2500 + y) ad h s m6 := W2.fr (fun i hi => (F6 _ (Or.inl (bx' _ (G.pl i hi).1))).trans ((L5 _ (by have := bx' _ (G.pl i hi).1; omega)).trans (F4 _ (bx' _ (G.pl i hi).1)))) (fun i hi => by have := bx' _ (G.pl i hi).1; omega)
  have tx4 := f_tx W4
  rw [hw, G.t] at tx4
  have nb6 := f_nb W6
  rw [hw] at nb6
  have z1 : ¬ bI true = Int32.ofNat 0 := by decide +kernel
  obtain ⟨T, hT⟩ : ∃ T, 4000000 = T + 20 * n8 + 2 + 1 + 1 + 1 := ⟨4000000 - 20 * n8 - 5, by omega⟩
  refine ⟨mF, ?_, by omega, by omega⟩
  show runL e (dN e (d + 20)) 365 4000000 0 _ [] m = _
  rw [hT, q365_0, r1, kV_r, r2, kV_r, ← hx, r3, kV_r, c1, kI_r, if_pos rfl, c2, kI_r, if_pos rfl, c3, kI_r, if_pos rfl, c4, kI_r, if_pos rfl, c5, kI_r, if_pos rfl, c6, kI_r, if_pos rfl, q365_2, tx4, bd_s, g5, kR_r, g6, kI_r, nb6, bd_s, if_pos W6.nbs.2.2, a90 (d := d + 19) S6, p1, kI_r, if_pos rfl, a91 (d := d + 19) S6, p2, kI_r, if_pos rfl, g7, kI_r, if_neg z1, q365_4, g8, kI_r, gF]
end
end

/-! ===== the constructors: parser, history, slots ===== -/
noncomputable section
def XI : bX := (fun i k => if i = 0 ∧ k = 3 then nM1 else Int32.ofNat 0, fun _ _ => 0)
def XM : bX := (fun i k => if i = 0 ∧ k = 10 then nM1 else Int32.ofNat 0, fun _ _ => 0)
section
variable {e : dEnv} {d a n s c : Nat} {g h : Nat → dObj} {F : Nat → Value} {m m1 m2 : dMem}
theorem k58 {b : Nat} (hb : m.2.1 = b) (he : e.1 ≤ b) : ∃ m', dN e (d + 3) 58 [.ref b] (nO m 5 (dNf 5) (dDef 5)) = some (.inl none, m') ∧ BLD b 25 (fun i => if i < 6 then bC TI b XI i else bC TA (b + 6) X0 (i - 6)) 2772 m m' := by
  have B0 : BLD b 1 (fun _ => .inr (5, dDef 5)) 5 m (nO m 5 (dNf 5) (dDef 5)) := BLD_O hb
  have e0 : (nO m 5 (dNf 5) (dDef 5)).2.1 = b + 1 := by rw [B0.2.2]
  obtain ⟨m1, g1, C1⟩ := k47 (e := e) (d := d + 1) e0 he (X := XI) ⟨rfl, rfl, rfl, rfl, rfl⟩
  have B1 := B0.then C1
  obtain ⟨m2, g2, B2⟩ := B1.pr (e := e) (k := 0) (q := b + 1) (by omega) rfl (by omega)
  have e2 : m2.2.1 = b + 6 := by rw [B2.2.2]
  obtain ⟨m3, g3, C3⟩ := k0_all (e := e) (d := d) e2 (by omega)
  have B3 := B2.then C3
  obtain ⟨m4, g4, B4⟩ := B3.pr (e := e) (k := 1) (q := b + 6) (by omega) rfl (by omega)
  obtain ⟨m5, g5, B5⟩ := B4.pi (e := e) (k := 3) (v := nM1) (by omega) rfl (by omega)
  refine ⟨m5, ?_, B5.to fun i hi => ?_⟩
  · rw [dN_at (j := 58) (as := [.ref b]) (m := nO m 5 (dNf 5) (dDef 5)) (ls := [some (.ref b)]) (B0.cc (by omega) rfl) rfl rfl rfl, dFu, q58_0, e0, g1, kV_r, g2, bd_s, e2, g3, kV_r, g4, bd_s, g5, bd_s]
  · by_cases q : i < 6
    · rw [if_pos q]
      have h3 : i = 0 ∨ i = 1 ∨ i = 2 ∨ i = 3 ∨ i = 4 ∨ i = 5 := by omega
      rcases h3 with rfl | rfl | rfl | rfl | rfl | rfl
      · refine congrArg (fun f => Sum.inr (5, f)) (funext fun k => ?_)
        match k with
        | 0 => rfl
        | 1 => rfl
        | 2 => rfl
        | 3 => rfl
        | k + 4 => rfl
      · rfl
      · rfl
      · rfl
      · rfl
      · rfl
    · rw [if_neg q, if_neg (by omega), if_neg (by omega), if_neg (by omega)]
/-- a reference into an array of references -/
theorem BLD.sr {len q j c' : Nat} {f : Nat → Option Nat} (Z : BLD a n g s m m1) (hn : 1 < n) (h1 : g 1 = .inl (5, len, .inr (.inr (.inr f)))) (he : e.1 ≤ a) (hj : j < len) (hl : len < 1000) (hq : isC m1 q c' = true) : ∃ m2, sR e m1 5 (a + 1) (Int32.ofNat j) q c' = some m2 ∧ BLD a n (fun i => if i = 1 then .inl (5, len, .inr (.inr (.inr (dFun f j (some q))))) else g i) s m m2 := by
  obtain ⟨z1, z2, z3⟩ := Z
  have z0 := z1 1 hn
  rw [h1] at z0
  have ij : (Int32.ofNat j).toInt = (j : Int) := nToI (by omega)
  refine ⟨dUp m1 (a + 1) (.inl (5, len, .inr (.inr (.inr (dFun f j (some q)))))), ?_, fun i hi => ?_, fun q hq => ?_, z3⟩
  · unfold sR
    rw [z0]
    simp only [ij]
    rw [if_pos ⟨trivial, by omega, by omega, by omega, hq⟩]
    rfl
  · by_cases q2 : i = 1
    · subst q2
      exact dUp_s
    · show _ = some (if i = 1 then _ else g i)
      rw [if_neg q2, ← z1 i (by omega)]
      exact dUp_n (by omega)
  · rw [← z2 q hq]
    exact dUp_n (by omega)
/-- a row of archives behind o cells -/
def aGG (a o N : Nat) (g0 : Nat → dObj) (k i : Nat) : dObj := if i = 1 then .inl (5, N, .inr (.inr (.inr fun j => if j < k then some (a + o + 19 * j) else none))) else if i < o then g0 i else bC TA (a + o + 19 * ((i - o) / 19)) X0 ((i - o) % 19)
theorem arch_loop {o N : Nat} {g0 : Nat → dObj} {G : Nat → Nat → dMem → Option dRes} {E : dMem → Option dRes} (ho : 2 ≤ o) (hN : N < 100) (h0 : g0 0 = .inr (c, F)) (hF : F 0 = .ref (a + 1)) (he : e.1 ≤ a) (hG : ∀ t k m, k < N → G (t + 1) k m = ((gR m a c 0).bind fun v1 => (kV (dN e (d + 2) 0 [.ref m.2.1] (nO m 2 (dNf 2) (dDef 2))) dPass fun m2 => ((sR e m2 5 v1 (Int32.ofNat k) m.2.1 2).bind fun m3 => G t (k + 1) m3)))) (hE : ∀ t m, G (t + 2) N m = E m) : ∀ (r k : Nat) (s : Nat) (m1 : dMem), k + r = N → BLD a (o + 19 * k) (aGG a o N g0 k) s m m1 → ∃ m2, (∀ t, G (t + r + 2) k m1 = E m2) ∧ BLD a (o + 19 * N) (aGG a o N g0 N) (s + 357 * r) m m2 := by
  intro r
  induction r with
  | zero =>
    intro k s m1 hk B
    have : k = N := by omega
    subst this
    exact ⟨m1, fun t => hE t m1, B⟩
  | succ r ih =>
    intro k s m1 hk B
    have e1 : m1.2.1 = a + (o + 19 * k) := by rw [B.2.2]
    obtain ⟨m2, g2, C2⟩ := k0_all (e := e) (d := d) (m := m1) e1 (by omega)
    have B2 := B.then C2
    have z0 := B.1 0 (by omega)
    rw [Nat.add_zero] at z0
    have gg : gR m1 a c 0 = some (a + 1) := by
      unfold gR
      rw [z0]
      unfold aGG
      rw [if_neg (by omega), if_pos (by omega), h0]
      show (if c = c then _ else none) = _
      rw [if_pos rfl, hF]
    have hq : isC m2 (a + (o + 19 * k)) 2 = true := C2.cc (F := bFl TA (a + (o + 19 * k)) X0 0) (by omega) rfl
    obtain ⟨m3, g3, B3⟩ := B2.sr (e := e) (len := N) (j := k) (q := a + (o + 19 * k)) (c' := 2) (f := fun j => if j < k then some (a + o + 19 * j) else none) (by omega) (by
      show (if 1 < o + 19 * k then aGG a o N g0 k 1 else _) = _
      rw [if_pos (by omega)]
      unfold aGG
      rw [if_pos rfl]) he (by omega) (by omega) hq
    have B4 : BLD a (o + 19 * (k + 1)) (aGG a o N g0 (k + 1)) (s + 357) m m3 := by
      have e3 : o + 19 * k + 19 = o + 19 * (k + 1) := by omega
      rw [e3] at B3
      refine B3.to fun i hi => ?_
      show (if i = 1 then _ else (if i < o + 19 * k then aGG a o N g0 k i else bC TA (a + (o + 19 * k)) X0 (i - (o + 19 * k)))) = aGG a o N g0 (k + 1) i
      unfold aGG
      by_cases q1 : i = 1
      · rw [if_pos q1, if_pos q1]
        refine congrArg (fun f => (Sum.inl (5, N, Sum.inr (Sum.inr (Sum.inr f))) : dObj)) (funext fun j => ?_)
        show (if j = k then _ else if j < k then _ else none) = _
        by_cases q2 : j = k
        · rw [if_pos q2, if_pos (by omega), q2, Nat.add_assoc]
        · rw [if_neg q2]
          by_cases q3 : j < k
          · rw [if_pos q3, if_pos (by omega)]
          · rw [if_neg q3, if_neg (by omega)]
      · rw [if_neg q1, if_neg q1, if_neg q1]
        by_cases q4 : i < o
        · rw [if_pos (by omega), if_pos q4]
        · rw [if_neg q4]
          by_cases q5 : i < o + 19 * k
          · rw [if_pos q5]
          · rw [if_neg q5, show (i - o) / 19 = k by omega, show (i - o) % 19 = i - (o + 19 * k) by omega, Nat.add_assoc]
    obtain ⟨m5, g5, B5⟩ := ih (k + 1) (s + 357) m3 (by omega) B4
    refine ⟨m5, fun t => ?_, ?_⟩
    · show G ((t + r + 2) + 1) k m1 = E m5
      rw [hG _ _ _ (by omega), gg, bd_s, e1, g2, kV_r, g3, bd_s]
      exact g5 t
    · rw [show s + 357 * (r + 1) = s + 357 + 357 * r by omega]
      exact B5
theorem aGG_A {o N : Nat} {g0 : Nat → dObj} (ho : 2 ≤ o) (B : BLD a (o + 19 * N) (aGG a o N g0 N) s m m1) {j : Nat} (hj : j < N) : hB TA 19 (a + o + 19 * j) X0 m1 := by
  intro i hi
  have := B.1 (o + 19 * j + i) (by omega)
  unfold aGG at this
  rw [if_neg (by omega), if_neg (by omega), show (o + 19 * j + i - o) / 19 = j by omega, show (o + 19 * j + i - o) % 19 = i by omega] at this
  rw [show a + o + 19 * j + i = a + (o + 19 * j + i) by omega]
  exact this
/-- the history -/
theorem k43 (hb : m.2.1 = a) (he : e.1 ≤ a) : ∃ m' g, dN e (d + 3) 43 [.ref a] (nO m 3 (dNf 3) (dDef 3)) = some (.inl none, m') ∧ BLD a 154 g 2867 m m' ∧ hB TH 2 a X0 m' ∧ ∀ j, j < 8 → hB TA 19 (a + 2 + 19 * j) X0 m' := by
  have B0 : BLD a 1 (fun _ => .inr (3, dDef 3)) 3 m (nO m 3 (dNf 3) (dDef 3)) := BLD_O hb
  obtain ⟨m1, g1, B1⟩ := B0.np (e := e) (kd := 5) (len := 8) (k := 0) (by omega) rfl (by omega)
  have B1' : BLD a (2 + 19 * 0) (aGG a 2 8 (fun j => if j = 0 then .inr (3, fun t => if t = 0 then .ref (a + 1) else dDef 3 t) else .inr (3, dDef 3)) 0) 11 m m1 := by
    refine B1.to fun i hi => ?_
    have h3 : i = 0 ∨ i = 1 := by omega
    rcases h3 with rfl | rfl
    · rfl
    · rfl
  obtain ⟨m2, g2, B2⟩ := arch_loop (e := e) (d := d) (F := fun t => if t = 0 then .ref (a + 1) else dDef 3 t) (c := 3) (o := 2) (N := 8) (G := fun t k m => runL e (dN e (d + 2)) 43 t 1 [some (.ref a), some (.int (Int32.ofNat k))] [] m) (E := fun m => some (.inl none, m)) (by omega) (by omega) rfl rfl he (fun t k m hk => by
    show runL e (dN e (d + 2)) 43 (t + 1) 1 _ [] m = _
    rw [q43_1, if_pos (by rw [nLt (by omega) (by omega)]; exact hk), nAdd]) (fun t m => by
    show runL e (dN e (d + 2)) 43 (t + 2) 1 _ [] m = _
    rw [q43_1, if_neg (by decide +kernel), q43_2]) 8 0 11 m1 rfl B1'
  refine ⟨m2, _, ?_, B2, fun i hi => ?_, fun j hj => aGG_A (by omega) B2 hj⟩
  · rw [dN_at (j := 43) (as := [.ref a]) (m := nO m 3 (dNf 3) (dDef 3)) (ls := [some (.ref a), none]) (B0.cc (by omega) rfl) rfl rfl rfl, dFu, q43_0, t8, if_pos (by decide +kernel), g1, bd_s]
    exact g2 3999989
  · rw [B2.1 i (by omega)]
    have h3 : i = 0 ∨ i = 1 := by omega
    rcases h3 with rfl | rfl
    · refine congrArg (fun f => some (Sum.inr (3, f))) (funext fun k => ?_)
      match k with
      | 0 => rfl
      | 1 => rfl
      | k + 2 => rfl
    · refine congrArg (fun f => some (Sum.inl (5, 8, Sum.inr (Sum.inr (Sum.inr f))) : dObj)) (funext fun k => ?_)
      match k with
      | 0 => rfl
      | 1 => rfl
      | 2 => rfl
      | 3 => rfl
      | 4 => rfl
      | 5 => rfl
      | 6 => rfl
      | 7 => rfl
      | k + 8 => exact if_neg (by omega)
/-- the slots -/
theorem k85 (hb : m.2.1 = a) (he : e.1 ≤ a) : ∃ m' g, dN e (d + 3) 85 [.ref a] (nO m 8 (dNf 8) (dDef 8)) = some (.inl none, m') ∧ BLD a 41 g 720 m m' ∧ hB TS 3 a X0 m' ∧ ∀ j, j < 2 → hB TA 19 (a + 3 + 19 * j) X0 m' := by
  have B0 : BLD a 1 (fun _ => .inr (8, dDef 8)) 2 m (nO m 8 (dNf 8) (dDef 8)) := BLD_O hb
  obtain ⟨m1, g1, B1⟩ := B0.np (e := e) (kd := 5) (len := 2) (k := 0) (by omega) rfl (by omega)
  obtain ⟨m2, g2, B2⟩ := B1.np (e := e) (kd := 4) (len := 2) (k := 1) (by omega) rfl (by omega)
  have B2' : BLD a (3 + 19 * 0) (aGG a 3 2 (fun j => if j = 0 then .inr (8, fun t => if t = 1 then .ref (a + 2) else if t = 0 then .ref (a + 1) else dDef 8 t) else .inl (4, 2, dDf 4)) 0) 6 m m2 := by
    refine B2.to fun i hi => ?_
    have h3 : i = 0 ∨ i = 1 ∨ i = 2 := by omega
    rcases h3 with rfl | rfl | rfl
    · rfl
    · rfl
    · rfl
  obtain ⟨m3, g3, B3⟩ := arch_loop (e := e) (d := d) (F := fun t => if t = 1 then .ref (a + 2) else if t = 0 then .ref (a + 1) else dDef 8 t) (c := 8) (o := 3) (N := 2) (G := fun t k m => runL e (dN e (d + 2)) 85 t 1 [some (.ref a), some (.int (Int32.ofNat k))] [] m) (E := fun m => some (.inl none, m)) (by omega) (by omega) rfl rfl he (fun t k m hk => by
    show runL e (dN e (d + 2)) 85 (t + 1) 1 _ [] m = _
    rw [q85_1, if_pos (by rw [nLt (by omega) (by omega)]; exact hk), nAdd]) (fun t m => by
    show runL e (dN e (d + 2)) 85 (t + 2) 1 _ [] m = _
    rw [q85_1, if_neg (by decide +kernel), q85_2]) 2 0 6 m2 rfl B2'
  refine ⟨m3, _, ?_, B3, fun i hi => ?_, fun j hj => aGG_A (by omega) B3 hj⟩
  · rw [dN_at (j := 85) (as := [.ref a]) (m := nO m 8 (dNf 8) (dDef 8)) (ls := [some (.ref a), none]) (B0.cc (by omega) rfl) rfl rfl rfl, dFu, q85_0, t2, if_pos (by decide +kernel), g1, bd_s, if_pos (by decide +kernel), g2, bd_s]
    exact g3 3999995
  · rw [B3.1 i (by omega)]
    have h3 : i = 0 ∨ i = 1 ∨ i = 2 := by omega
    rcases h3 with rfl | rfl | rfl
    · refine congrArg (fun f => some (Sum.inr (8, f))) (funext fun k => ?_)
      match k with
      | 0 => rfl
      | 1 => rfl
      | k + 2 => rfl
    · refine congrArg (fun f => some (Sum.inl (5, 2, Sum.inr (Sum.inr (Sum.inr f))) : dObj)) (funext fun k => ?_)
      match k with
      | 0 => rfl
      | 1 => rfl
      | k + 2 => exact if_neg (by omega)
    · rfl
/-- the text -/
theorem k366 (hb : m.2.1 = a) (he : e.1 ≤ a) : ∃ m' g, dN e (d + 2) 366 [.ref a] (nO m 1 (dNf 1) (dDef 1)) = some (.inl none, m') ∧ BLD a 2 g 20 m m' ∧ hT a m' (a + 1) 16 0 (fun _ => Int32.ofNat 0) := by
  have B0 : BLD a 1 (fun _ => .inr (1, dDef 1)) 4 m (nO m 1 (dNf 1) (dDef 1)) := BLD_O hb
  obtain ⟨m1, g1, B1⟩ := B0.np (e := e) (kd := 3) (len := 16) (k := 0) (by omega) rfl (by omega)
  obtain ⟨m2, g2, B2⟩ := B1.pv (e := e) (k := 1) (v := .int (Int32.ofNat 0)) (by omega) rfl (by omega)
  have c0 := B0.cc (by omega) rfl
  refine ⟨m2, _, ?_, B2, ⟨_, B2.1 0 (by omega), rfl, rfl, rfl, B2.1 1 (by omega), by omega, by omega, by omega⟩⟩
  have g2' : pB e m1 a 1 1 (Int32.ofNat 0) = some m2 := by
    unfold pB
    rw [if_pos (by decide +kernel)]
    exact g2
  have t16 : (Int32.ofNat 16).toInt.toNat = 16 := by decide +kernel
  rw [dN_at (j := 366) (as := [.ref a]) (m := nO m 1 (dNf 1) (dDef 1)) (ls := [some (.ref a)]) c0 rfl rfl rfl, dFu, q366_0, dN_at (j := 372) (as := [.ref a, .int (Int32.ofNat 16)]) (m := nO m 1 (dNf 1) (dDef 1)) (ls := [some (.ref a), some (.int (Int32.ofNat 16))]) c0 rfl rfl rfl, dFu, q372_0, if_neg (by decide +kernel), if_pos (by decide +kernel), t16, g1, bd_s, g2', bd_s, q372_2]
  rfl
end
end

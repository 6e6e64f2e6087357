/-! ===== names and places, as the reference reads them ===== -/
noncomputable section
theorem RTc.c0 {T : dTok} {M M' : bX} {c : Nat} (Z : RTc T M c) (h0 : M'.1 0 = M.1 0) (h5 : M'.1 5 = M.1 5) : RTc T M' c := by
  obtain ⟨⟨z1, z2, z3⟩, z4, z5⟩ := Z
  refine ⟨⟨z1, by rw [h0]; exact z2, by rw [h5]; exact z3⟩, ?_, by rw [h0]; exact z5⟩
  unfold RC
  rw [h0]
  exact z4
/-- fields of reading and told numbers change -/
def mN (M M' : bX) : Prop := (∀ i, i ≠ 0 → i ≠ 1 → M'.1 i = M.1 i) ∧ ∀ k, k < 12 ∨ 17 < k → M'.1 0 k = M.1 0 k
theorem mE.n {M M' : bX} (E : mE M M') : mN M M' := ⟨fun i h _ => E.1 i h, E.2⟩
theorem mN.tr {M M1 M2 : bX} (a : mN M M1) (b : mN M1 M2) : mN M M2 := ⟨fun i h1 h2 => (b.1 i h1 h2).trans (a.1 i h1 h2), fun k h => (b.2 k h).trans (a.2 k h)⟩
theorem mN_1 {M : bX} {g : sV} : mN M (uA M 1 g) := ⟨fun i h1 h2 => uA_n h2, fun k _ => by rw [uA_n (by omega)]⟩
/-- a name written so far -/
def nmX (T : dTok) (c : Nat) (h : sV) (p i : Nat) : sV := fun q => if p ≤ q ∧ q < p + i then nmL T c (q - p) else h q
theorem nmX_0 {T : dTok} {c p : Nat} {h : sV} : nmX T c h p 0 = h := by
  funext q
  exact if_neg (by omega)
theorem nmX_s {T : dTok} {c p i : Nat} {h : sV} : wr (nmX T c h p i) (p + i) (nmL T c i) = nmX T c h p (i + 1) := by
  funext q
  unfold wr nmX
  by_cases z : q = p + i
  · rw [if_pos z, if_pos (by omega), z, Nat.add_sub_cancel_left]
  · rw [if_neg z]
    by_cases z2 : p ≤ q ∧ q < p + i
    · rw [if_pos z2, if_pos (by omega)]
    · rw [if_neg z2, if_neg (by omega)]
section
variable {e : dEnv} {d b c x : Nat} {T : dTok} {M : bX} {m : dMem}
/-- the length that the fields tell -/
theorem RTc.w (Z : RTc T M c) (hk : tK T c = 1) : M.1 0 12 = Int32.ofNat (tPl T c + tL T c) ∧ M.1 0 13 = Int32.ofNat (tPl T c) ∧ tPl T c + tL T c ≤ tE T ∧ tE T ≤ 600 ∧ ∀ i, i < tL T c → M.1 5 (tPl T c + i) = nmL T c i := by
  obtain ⟨z1, z2, z3⟩ := Z
  have hl := z2.2.2.2.2
  have h2 := z1.1.lt hl (by omega)
  have h3 := (z1.1.2.1 c h2).2.2.1
  have e1 : ee T c = tPl T c + tL T c := if_pos h2
  refine ⟨by rw [z2.1, e1], z2.2.1, h3, z1.1.1.2.2.1, fun i hi => ?_⟩
  rw [z1.2.2 _ (by omega), nmL_i hi]
theorem m214_i (Z : RTc T M c) (hk : tK T c = 1) {p k many : Nat} (hp : p + 6 * k + 6 ≤ 118) : ∀ r i : Nat, i + r = 6 → ∀ t, 5 * r + 1 ≤ t → ∃ u, t ≤ u + 5 * r + 1 ∧ runL e (dN e d) 214 t 2 [some (.ref b), some (.int (Int32.ofNat many)), some (.int (Int32.ofNat p)), some (.int (Int32.ofNat k)), some (.int (bI (!anyB i fun i => !decide (M.1 1 (p + 6 * k + i) = nmL T c i)))), some (.int (Int32.ofNat i))] [] (ov TM 8 b M m) = runL e (dN e d) 214 u 7 [some (.ref b), some (.int (Int32.ofNat many)), some (.int (Int32.ofNat p)), some (.int (Int32.ofNat k)), some (.int (bI (!anyB 6 fun i => !decide (M.1 1 (p + 6 * k + i) = nmL T c i)))), none] [] (ov TM 8 b M m) := by
  obtain ⟨w1, w2, w3, w4, w5⟩ := Z.w hk
  intro r
  induction r with
  | zero =>
    intro i hi t ht
    have : i = 6 := by omega
    subst this
    obtain ⟨u, rfl⟩ : ∃ u, t = u + 1 := ⟨t - 1, by omega⟩
    exact ⟨u, by omega, by rw [q214_2, if_neg (by decide +kernel)]⟩
  | succ r ih =>
    intro i hi t ht
    obtain ⟨u, rfl⟩ : ∃ u, t = u + 5 := ⟨t - 5, by omega⟩
    have i6 : i < 6 := by omega
    rw [q214_2, if_pos (by rw [nLt (by omega) (by omega)]; exact i6)]
    cases q : (!anyB i fun i => !decide (M.1 1 (p + 6 * k + i) = nmL T c i)) with
    | false =>
      have e1 : (!anyB (i + 1) fun i => !decide (M.1 1 (p + 6 * k + i) = nmL T c i)) = false := by
        rw [anyB_s]
        cases z : anyB i fun i => !decide (M.1 1 (p + 6 * k + i) = nmL T c i) with
        | false => rw [z] at q; cases q
        | true => rfl
      obtain ⟨u2, h1, h2⟩ := ih (i + 1) (by omega) (u + 2) (by omega)
      refine ⟨u2, by omega, ?_⟩
      rw [if_pos (by decide +kernel), q214_5, q214_6, nAdd, ← h2, e1]
      rfl
    | true =>
      have e1 : (!anyB (i + 1) fun i => !decide (M.1 1 (p + 6 * k + i) = nmL T c i)) = decide (M.1 1 (p + 6 * k + i) = nmL T c i) := by
        rw [anyB_s]
        cases z : anyB i fun i => !decide (M.1 1 (p + 6 * k + i) = nmL T c i) with
        | false => cases decide (M.1 1 (p + 6 * k + i) = nmL T c i) <;> rfl
        | true => rw [z] at q; cases q
      have s4 : ∀ t, 3 ≤ t → ∃ u, t ≤ u + 3 ∧ runL e (dN e d) 214 t 4 [some (.ref b), some (.int (Int32.ofNat many)), some (.int (Int32.ofNat p)), some (.int (Int32.ofNat k)), none, some (.int (Int32.ofNat i))] [.int (nmL T c i), .int (M.1 1 (p + 6 * k + i))] (ov TM 8 b M m) = runL e (dN e d) 214 u 2 [some (.ref b), some (.int (Int32.ofNat many)), some (.int (Int32.ofNat p)), some (.int (Int32.ofNat k)), some (.int (bI (decide (M.1 1 (p + 6 * k + i) = nmL T c i)))), some (.int (Int32.ofNat (i + 1)))] [] (ov TM 8 b M m) := by
        intro t ht
        obtain ⟨v, rfl⟩ : ∃ v, t = v + 3 := ⟨t - 3, by omega⟩
        rw [q214_4]
        by_cases z : M.1 1 (p + 6 * k + i) = nmL T c i
        · refine ⟨v + 1, by omega, ?_⟩
          rw [if_pos z, q214_6, nAdd, decide_eq_true z]
          rfl
        · refine ⟨v, by omega, ?_⟩
          rw [if_neg z, q214_5, q214_6, nAdd, decide_eq_false z]
          rfl
      rw [if_neg (by decide +kernel), M_r0_2]
      (try simp only [bd_s])
      rw [nMul, nAdd, nAdd, M_a1 (by omega)]
      (try simp only [bd_s])
      rw [M_g0_12, w1]
      (try simp only [bd_s])
      rw [M_g0_13, w2]
      (try simp only [bd_s])
      rw [nSub (by omega), show tPl T c + tL T c - tPl T c = tL T c by omega]
      by_cases z : i < tL T c
      · obtain ⟨u3, a1, a2⟩ := s4 (u + 4) (by omega)
        obtain ⟨u2, h1, h2⟩ := ih (i + 1) (by omega) u3 (by omega)
        refine ⟨u2, by omega, ?_⟩
        rw [if_pos (by rw [nLt (by omega) (by omega)]; exact z), M_r0_7]
        (try simp only [bd_s])
        (try rw [M_g0_13, w2])
        (try simp only [bd_s])
        rw [nAdd, M_a5 (by omega), w5 i z]
        (try simp only [bd_s])
        rw [a2, ← h2, e1]
      · obtain ⟨u3, a1, a2⟩ := s4 (u + 3) (by omega)
        obtain ⟨u2, h1, h2⟩ := ih (i + 1) (by omega) u3 (by omega)
        refine ⟨u2, by omega, ?_⟩
        rw [if_neg (by rw [nLt (by omega) (by omega)]; exact z), q214_3, ← h2, e1, ← a2, nmL_o (by omega)]
theorem m214 (Z : RTc T M c) (hk : tK T c = 1) {p many : Nat} (hm : many ≤ 8) (hp : p + 6 * many ≤ 118) : dN e (d + 1) 214 [.ref b, .int (Int32.ofNat many), .int (Int32.ofNat p)] (ov TM 8 b M m) = rI (fI many fun k => !anyB 6 fun i => !decide (M.1 1 (p + 6 * k + i) = nmL T c i)) (ov TM 8 b M m) := by
  refine en214 M_c0 fun t ht => ?_
  obtain ⟨u, rfl⟩ := fu 1 ht rfl
  rw [q214_0]
  refine (lp_find1 (c := 40) (n := many) (p := fun k => !anyB 6 fun i => !decide (M.1 1 (p + 6 * k + i) = nmL T c i)) (r := fun k => rI (Int32.ofNat k) (ov TM 8 b M m)) (r0 := rI nM1 (ov TM 8 b M m)) (G := fun t k => runL e (dN e d) 214 t 1 [some (.ref b), some (.int (Int32.ofNat many)), some (.int (Int32.ofNat p)), some (.int (Int32.ofNat k)), none, none] [] (ov TM 8 b M m)) (fun t k hk2 hf => ?_) (fun t k hk2 hf => ?_) (fun t => ?_) u (by omega)).trans ?_
  · have hf' : (!anyB 6 fun i => !decide (M.1 1 (p + 6 * k + i) = nmL T c i)) = false := hf
    obtain ⟨u2, h1, h2⟩ := m214_i (e := e) (d := d) (b := b) (m := m) (many := many) (p := p) (k := k) Z hk (by omega) 6 0 (by omega) (t + 39) (by omega)
    obtain ⟨v, rfl⟩ : ∃ v, u2 = v + 2 := ⟨u2 - 2, by omega⟩
    refine ⟨v, by omega, ?_⟩
    show runL e (dN e d) 214 (t + 39 + 1) 1 _ [] _ = _
    rw [q214_1, if_pos (by rw [nLt (by omega) (by omega)]; exact hk2)]
    have h3 : runL e (dN e d) 214 (t + 39) 2 [some (.ref b), some (.int (Int32.ofNat many)), some (.int (Int32.ofNat p)), some (.int (Int32.ofNat k)), some (.int (Int32.ofNat 1)), some (.int (Int32.ofNat 0))] [] (ov TM 8 b M m) = _ := h2
    rw [h3, hf', q214_7, if_pos (by decide +kernel), q214_8, nAdd]
  · have hf' : (!anyB 6 fun i => !decide (M.1 1 (p + 6 * k + i) = nmL T c i)) = true := hf
    obtain ⟨u2, h1, h2⟩ := m214_i (e := e) (d := d) (b := b) (m := m) (many := many) (p := p) (k := k) Z hk (by omega) 6 0 (by omega) (t + 39) (by omega)
    obtain ⟨v, rfl⟩ : ∃ v, u2 = v + 2 := ⟨u2 - 2, by omega⟩
    show runL e (dN e d) 214 (t + 39 + 1) 1 _ [] _ = _
    rw [q214_1, if_pos (by rw [nLt (by omega) (by omega)]; exact hk2)]
    have h3 : runL e (dN e d) 214 (t + 39) 2 [some (.ref b), some (.int (Int32.ofNat many)), some (.int (Int32.ofNat p)), some (.int (Int32.ofNat k)), some (.int (Int32.ofNat 1)), some (.int (Int32.ofNat 0))] [] (ov TM 8 b M m) = _ := h2
    rw [h3, hf', q214_7, if_neg (by decide +kernel)]
  · show runL e (dN e d) 214 (t + 39 + 1) 1 _ [] _ = _
    rw [q214_1, if_neg (by rw [nLt (by omega) (by omega)]; exact Nat.lt_irrefl _), q214_9]
  · unfold fI
    cases fnd many (fun k => !anyB 6 fun i => !decide (M.1 1 (p + 6 * k + i) = nmL T c i)) <;> rfl
theorem hasN_fI {h : sV} {p many : Nat} (hm : many ≤ 8) : (fI many (fun k => !anyB 6 fun i => !decide (h (p + 6 * k + i) = nmL T c i)) = nM1) = (hasN T c h p many = false) := by
  unfold hasN anyB fI
  cases q : fnd many (fun k => !(fnd 6 fun i => !decide (h (p + 6 * k + i) = nmL T c i)).isSome) with
  | none => exact (eq_true rfl).trans (eq_true rfl).symm
  | some k =>
    have := (fnd_some q).1
    rw [oI_s, nEqM (by omega)]
    exact (eq_false Bool.noConfusion).symm
/-- the letters are written -/
theorem m215_6 (he : e.1 ≤ b) {h : sV} {p many : Nat} (hp : p + 6 * many + 6 ≤ 118) (hk : tK T c = 1) : ∀ (r i : Nat) (M : bX), i + r = 6 → RTc T M c → M.1 1 = nmX T c h (p + 6 * many) i → ∃ M', (∀ t, 3 * r + 1 ≤ t → ∃ u, t ≤ u + 3 * r + 1 ∧ runL e (dN e (d + 3)) 215 t 6 [some (.ref b), some (.int (Int32.ofNat many)), some (.int (Int32.ofNat p)), some (.int (Int32.ofNat i))] [] (ov TM 8 b M m) = runL e (dN e (d + 3)) 215 u 9 [some (.ref b), none, none, none] [] (ov TM 8 b M' m)) ∧ RTc T M' c ∧ M'.1 1 = nmX T c h (p + 6 * many) 6 ∧ mN M M' := by
  intro r
  induction r with
  | zero =>
    intro i M hi Z h1
    have : i = 6 := by omega
    subst this
    refine ⟨M, fun t ht => ?_, Z, h1, mE.rf.n⟩
    obtain ⟨u, rfl⟩ : ∃ u, t = u + 1 := ⟨t - 1, by omega⟩
    refine ⟨u, by omega, ?_⟩
    rw [q215_6, M_g0_16, Z.2.2]
    (try simp only [bd_s])
    rw [if_pos (by trivial), if_neg (by decide +kernel)]
  | succ r ih =>
    intro i M hi Z h1
    obtain ⟨w1, w2, w3, w4, w5⟩ := Z.w hk
    have Z' : RTc T (uA M 1 (wr (M.1 1) (p + 6 * many + i) (nmL T c i))) c := Z.c0 (uA_n (by omega)) (uA_n (by omega))
    obtain ⟨M', g, a1, a2, a3⟩ := ih (i + 1) (uA M 1 (wr (M.1 1) (p + 6 * many + i) (nmL T c i))) (by omega) Z' (by rw [uA_s, h1, nmX_s])
    refine ⟨M', fun t ht => ?_, a1, a2, mN_1.tr a3⟩
    obtain ⟨u, rfl⟩ : ∃ u, t = u + 3 := ⟨t - 3, by omega⟩
    rw [q215_6, M_g0_16, Z.2.2]
    (try simp only [bd_s])
    rw [if_pos (by trivial), if_pos (by rw [nLt (by omega) (by omega)]; omega), M_r0_2]
    (try simp only [bd_s])
    rw [M_g0_12, w1]
    (try simp only [bd_s])
    rw [M_g0_13, w2]
    (try simp only [bd_s])
    rw [nSub (by omega), show tPl T c + tL T c - tPl T c = tL T c by omega, nMul, nAdd, nAdd]
    by_cases z : i < tL T c
    · obtain ⟨u2, b1, b2⟩ := g (u + 1) (by omega)
      refine ⟨u2, by omega, ?_⟩
      rw [if_pos (by rw [nLt (by omega) (by omega)]; exact z), M_r0_7]
      (try simp only [bd_s])
      (try rw [M_g0_13, w2])
      (try simp only [bd_s])
      rw [nAdd, M_a5 (by omega), w5 i z]
      (try simp only [bd_s])
      rw [q215_8, M_s1 he (by omega)]
      (try simp only [bd_s])
      rw [nAdd, b2]
    · obtain ⟨u2, b1, b2⟩ := g u (by omega)
      refine ⟨u2, by omega, ?_⟩
      rw [if_neg (by rw [nLt (by omega) (by omega)]; exact z), q215_7, q215_8, nAdd (p + 6 * many) i, M_s1 he (by omega)]
      (try simp only [bd_s])
      rw [nAdd, ← nmL_o (T := T) (c := c) (i := i) (by omega), b2]
def nhR (T : dTok) (b : Nat) (m : dMem) (M : bX) (run : Option dRes) (c q : Nat) (r : dErr ⊕ Unit) : Prop := match r with
  | .inl z => ∃ M', run = some (.inl none, ov TM 8 b M' m) ∧ BAD T M' z ∧ mE M M'
  | .inr _ => ∃ M', run = some (.inl none, ov TM 8 b M' m) ∧ RTc T M' (nx T c) ∧ M'.1 1 = nmW T c (M.1 1) q ∧ mN M M'
theorem b215_5 (h0 : ¬ M.1 0 16 = Int32.ofNat 0) {i y z : Int32} {t : Nat} : runL e (dN e (d + 3)) 215 (t + 3) 5 [some (.ref b), some (.int y), some (.int z), none] [.int i, .ref b] (ov TM 8 b M m) = some (.inl none, ov TM 8 b M m) := by
  rw [q215_5, b209 (d := d + 1) h0, kV_r, q215_6, M_g0_16]
  (try simp only [bd_s])
  rw [if_neg h0, q215_9, b210 (d := d) h0, kV_r]
theorem m215 (he : e.1 ≤ b) (Z : RTc T M c) {p many : Nat} (hm : many < 8) (hp : p + 6 * many + 6 ≤ 118) : nhR T b m M (dN e (d + 4) 215 [.ref b, .int (Int32.ofNat many), .int (Int32.ofNat p)] (ov TM 8 b M m)) c (p + 6 * many) (pName T c (M.1 1) p many) := by
  have Zc := Z
  obtain ⟨z1, z2, z3⟩ := Z
  have hl := z2.2.2.2.2
  obtain ⟨kb, -⟩ := kd_b z1.1 hl
  rw [dN_at (j := 215) (as := [.ref b, .int (Int32.ofNat many), .int (Int32.ofNat p)]) (m := ov TM 8 b M m) (ls := [some (.ref b), some (.int (Int32.ofNat many)), some (.int (Int32.ofNat p)), none]) M_c0 rfl rfl rfl, dFu, q215_0, M_g0_14, z2.2.2.1]
  (try simp only [bd_s])
  unfold pName
  by_cases c1 : kd T c = 1
  · have t1 := kd_1 c1
    obtain ⟨w1, w2, w3, w4, w5⟩ := Zc.w t1
    have hL := z1.1.b hl
    rw [if_pos (by rw [srt_1 kb]; exact c1), q215_1, q215_2, m209_0 (d := d + 1), kV_r, M_g0_16, z3, decide_eq_true c1, pC_t]
    (try simp only [bd_s])
    rw [if_pos (by trivial), M_g0_12, w1]
    (try simp only [bd_s])
    rw [M_g0_13, w2]
    (try simp only [bd_s])
    rw [nSub (by omega), show tPl T c + tL T c - tPl T c = tL T c by omega]
    have bad3 : ∀ t, runL e (dN e (d + 3)) 215 (t + 5) 3 [some (.ref b), some (.int (Int32.ofNat many)), some (.int (Int32.ofNat p)), none] [.ref b] (ov TM 8 b M m) = some (.inl none, ov TM 8 b (flM M 3) m) := by
      intro t
      have n3 := (flM_B Zc (k := 3) (by omega) (by omega)).ne
      rw [q215_3, q215_5, m209_1 (d := d + 1) he z3, kV_r, q215_6, M_g0_16]
      (try simp only [bd_s])
      rw [if_neg n3, q215_9, b210 (d := d) n3, kV_r]
    by_cases c2 : 6 < tL T c
    · rw [if_pos (by rw [nLt (by omega) (by omega)]; exact c2), bad3, decide_eq_true c2]
      exact ⟨_, rfl, flM_B Zc (by omega) (by omega), flM_E⟩
    · rw [if_neg (by rw [nLt (by omega) (by omega)]; exact c2), m214 (d := d + 2) Zc t1 (by omega) (by omega), kI_r, decide_eq_false c2, Bool.not_false, Bool.true_and]
      cases q : hasN T c (M.1 1) p many with
      | true =>
        rw [if_neg (by rw [hasN_fI (by omega), q]; exact Bool.noConfusion), bad3]
        exact ⟨_, rfl, flM_B Zc (by omega) (by omega), flM_E⟩
      | false =>
        obtain ⟨M', g, a1, a2, a3⟩ := m215_6 (e := e) (d := d) (m := m) (many := many) (h := M.1 1) he hp t1 6 0 M rfl Zc nmX_0.symm
        obtain ⟨M2, g2, a4, a5⟩ := m210 (e := e) (d := d) (m := m) he a1
        obtain ⟨u, b1, b2⟩ := g (3999900 + 95) (by omega)
        obtain ⟨v, rfl⟩ : ∃ v, u = v + 1 := ⟨u - 1, by omega⟩
        rw [if_pos (by rw [hasN_fI (by omega)]; exact q), q215_4, q215_5, m209_0 (d := d + 1), kV_r, b2, q215_9, g2, kV_r]
        exact ⟨M2, rfl, a4, by rw [a5.1 1 (by omega), a2]; rfl, a3.tr a5.n⟩
  · have n1 := (flM_B Zc (k := 1) (by omega) (by omega)).ne
    rw [if_neg (by rw [srt_1 kb]; exact c1), q215_2, m209_1 (d := d + 1) he z3, kV_r, M_g0_16, decide_eq_false c1]
    (try simp only [bd_s])
    rw [if_neg n1, q215_4, b215_5 n1]
    exact ⟨_, rfl, flM_B Zc (by omega) (by omega), flM_E⟩
theorem b215 (h0 : ¬ M.1 0 16 = Int32.ofNat 0) {y z : Int32} : dN e (d + 4) 215 [.ref b, .int y, .int z] (ov TM 8 b M m) = some (.inl none, ov TM 8 b M m) := by
  have s2 : ∀ (t : Nat) (i : Int32), runL e (dN e (d + 3)) 215 (t + 5) 2 [some (.ref b), some (.int y), some (.int z), none] [.int i, .ref b] (ov TM 8 b M m) = some (.inl none, ov TM 8 b M m) := by
    intro t i
    rw [q215_2, b209 (d := d + 1) h0, kV_r, M_g0_16]
    (try simp only [bd_s])
    rw [if_neg h0, q215_4, b215_5 h0]
  refine en215 M_c0 fun t ht => ?_
  obtain ⟨u, rfl⟩ := fu 9 ht rfl
  rw [q215_0, M_g0_14]
  (try simp only [bd_s])
  by_cases q : M.1 0 14 = Int32.ofNat 1
  · rw [if_pos q, q215_1, s2]
  · rw [if_neg q, s2]
/-- a free place -/
def fpR (T : dTok) (b : Nat) (m : dMem) (M : bX) (run : Option dRes) (r : dErr ⊕ (Nat × Nat)) : Prop := match r with
  | .inl z => ∃ M' v, run = rI v (ov TM 8 b M' m) ∧ BAD T M' z ∧ mE M M'
  | .inr v => ∃ M', run = rI (Int32.ofNat v.1) (ov TM 8 b M' m) ∧ RTc T M' (nx T v.2) ∧ mE M M'
theorem m217 (he : e.1 ≤ b) (Z : RTc T M (nx T c)) (W : okI 0 24 (M.1 2 1)) (H : WH (M.1 1)) : fpR T b m M (dN e (d + 5) 217 [.ref b] (ov TM 8 b M m)) (pFree T c (M.1 2) (M.1 1)) := by
  obtain ⟨n, n1, n2, n3, n4⟩ := H.1.ex
  obtain ⟨P, p1, p2, p3, p4⟩ := H.2.1.ex
  have L := m213 (e := e) (d := d) (m := m) he Z (lo := 0) (hi := Int32.ofNat n - Int32.ofNat 1) (by omega)
  rw [hiI (by omega)] at L
  rw [dN_at (j := 217) (as := [.ref b]) (m := ov TM 8 b M m) (ls := [some (.ref b), none, none, none]) M_c0 rfl rfl rfl, dFu, q217_0, M_r0_2]
  (try simp only [bd_s])
  rw [M_a1 (by omega), n1]
  (try simp only [bd_s])
  unfold pFree
  rw [n2, p2]
  have bad2 : ∀ (X : bX) (v : Int32) (t : Nat), ¬ X.1 0 16 = Int32.ofNat 0 → runL e (dN e (d + 4)) 217 (t + 4) 2 [some (.ref b), none, none, none] [.int v] (ov TM 8 b X m) = rI v (ov TM 8 b X m) := by
    intro X v t h0
    rw [q217_2, M_g0_16]
    (try simp only [bd_s])
    rw [if_neg h0, q217_3, q217_4, b209 (d := d + 2) h0, kV_r, b210 (d := d + 1) h0, kV_r]
  cases hr : pNum T (nx T c) 0 ((n : Int) - 1) with
  | inl z =>
    rw [hr] at L
    obtain ⟨M1, g, B, E⟩ := L
    rw [g, kI_r, M_r0_2]
    (try simp only [bd_s])
    rw [M_a1 (by omega)]
    (try simp only [bd_s])
    rw [b212 (d := d + 2) B.ne, kI_r, M_g0_16]
    (try simp only [bd_s])
    rw [if_neg B.ne, q217_1, bad2 M1 _ _ B.ne]
    exact ⟨M1, _, rfl, B, E⟩
  | inr i =>
    rw [hr] at L
    obtain ⟨M1, g, Z1, E1⟩ := L
    obtain ⟨-, -, -, r4⟩ := pNum_r hr
    have L2 := m212 (e := e) (d := d + 2) (m := m) he Z1 (lo := 0) (hi := Int32.ofNat P - Int32.ofNat 1) (by omega)
    rw [hiI (by omega)] at L2
    rw [g, kI_r, M_r0_2, pB_r]
    (try simp only [bd_s])
    rw [M_a1 (by omega), E1.1 1 (by omega), p1]
    (try simp only [bd_s])
    cases hr2 : pNum T (nx T (nx T c)) 0 ((P : Int) - 1) with
    | inl z =>
      rw [hr2] at L2
      obtain ⟨M2, g2, B2, E2⟩ := L2
      rw [g2, kI_r, M_g0_16]
      (try simp only [bd_s])
      rw [if_neg B2.ne, q217_1, bad2 M2 _ _ B2.ne]
      exact ⟨M2, _, rfl, B2, E1.tr E2⟩
    | inr j =>
      rw [hr2] at L2
      have L2' : dN e (d + 4) 212 [.ref b, .int (Int32.ofNat 0), .int (Int32.ofNat P - Int32.ofNat 1)] (ov TM 8 b M1 m) = rI (Int32.ofNat j) (ov TM 8 b M1 m) := L2
      have gb := c_boxOn (e := e) (b := b) (m := m) (M := M1) (d := d + 2) (x := Int32.ofNat (i * P + j)) (by rw [E1.1 2 (by omega)]; exact W)
      rw [E1.1 2 (by omega)] at gb
      rw [L2', kI_r, M_g0_16, Z1.2.2, pB_r]
      (try simp only [bd_s])
      rw [if_pos (by trivial), M_r0_2]
      (try simp only [bd_s])
      rw [M_a1 (by omega), E1.1 1 (by omega), p1]
      (try simp only [bd_s])
      rw [nMul, nAdd, q217_2, M_g0_16, Z1.2.2]
      (try simp only [bd_s])
      rw [if_pos (by trivial), gb, kI_r]
      by_cases q : boxOnS (M.1 2) (Int32.ofNat (i * P + j)) = nM1
      · obtain ⟨M2, g3, Z2, E2⟩ := m210 (e := e) (d := d + 1) (m := m) he Z1
        rw [if_pos q, q217_3, q217_4, m209_0 (d := d + 2), kV_r, g3, kV_r, decide_eq_true q, pC_t]
        exact ⟨M2, rfl, Z2, E1.tr E2⟩
      · have B3 := flM_B Z1 (k := 3) (by omega) (by omega)
        rw [if_neg q, q217_4, m209_1 (d := d + 2) he Z1.2.2, kV_r, b210 (d := d + 1) B3.ne, kV_r, decide_eq_false q, pC_f]
        exact ⟨_, _, rfl, B3, E1.tr flM_E⟩
theorem b217 (h0 : ¬ M.1 0 16 = Int32.ofNat 0) : dN e (d + 5) 217 [.ref b] (ov TM 8 b M m) = rI (Int32.ofNat 0) (ov TM 8 b M m) := by
  refine en217 M_c0 fun t ht => ?_
  obtain ⟨u, rfl⟩ := fu 9 ht rfl
  rw [q217_0, M_r0_2]
  (try simp only [bd_s])
  rw [M_a1 (by omega)]
  (try simp only [bd_s])
  rw [b213 (d := d) h0, kI_r]
  (try rw [M_r0_2])
  (try simp only [bd_s])
  rw [M_a1 (by omega)]
  (try simp only [bd_s])
  rw [b212 (d := d + 2) h0, kI_r, M_g0_16]
  (try simp only [bd_s])
  rw [if_neg h0, q217_1, q217_2, M_g0_16]
  (try simp only [bd_s])
  rw [if_neg h0, q217_3, q217_4, b209 (d := d + 2) h0, kV_r, b210 (d := d + 1) h0, kV_r]
end
end

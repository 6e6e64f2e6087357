/-! ===== averages, the buffer, loading, on both sides ===== -/
noncomputable section
section
variable {e : dEnv} {x l0 C S0 YB : Nat} {m0 m m1 m2 : dMem} {R I H S M M' R' I' H' S' : bX} {Ar Ar' : Nat → bX} {l : List Nat} {cj rj : Nat} {as : List Value} {ks : Nat → Nat} {v i : Int32}
theorem q0_rel (Z : REL x m0 C S0 YB m R I H S Ar M l) (F : ∀ q, q ≠ x + 270 → m2.1 q = m.1 q) (F2 : m2.2 = m.2) (oD : OUTD (x + 270) m2) : REL x m0 (C + 2) (S0 + 12) (YB + 50) (ov TM 8 (x + 261) (mT M 0) m2) R I H S Ar (mT M 0) l := by
  obtain ⟨z1, z2, z3, z4, z5, z6, z7, z8⟩ := Z
  refine rel_M (fun q hq => (F q (by omega)).trans (z1 q hq)) (hSys_low z2 (fun q h1 h2 => F q (by omega))) (hX_mem z3 (fun q hq => F q (by omega)) (by rw [F2]; exact Nat.le_refl _) (by rw [F2]; omega) (by rw [F2]; omega)) ?_ oD (yT_ag (mT_n (by omega)) (mT_0k (by omega)) z5) (CND_mono (by omega) (CND_ag AGM_mT (fun _ _ _ => rfl) z8))
  obtain ⟨f, z⟩ := z6
  exact ⟨f, (F _ (by omega)).trans z⟩
theorem e_rel {K : Nat} (Z : REL x m0 C S0 YB m R I H S Ar M l) : REL x m0 (C + 2) (S0 + 12) (YB + 50) (ov TM 8 (x + 261) (mT M K) (m.1, m.2.1 + 1, m.2.2 + 6)) R I H S Ar (mT M K) l := by
  obtain ⟨z1, z2, z3, z4, z5, z6, z7, z8⟩ := Z
  refine rel_M (m := (m.1, m.2.1 + 1, m.2.2 + 6)) z1 (hSys_1 z2 rfl) (hX_mem z3 (fun _ _ => rfl) ?_ ?_ ?_) z6 z7 (yT_ag (mT_n (by omega)) (mT_0k (by omega)) z5) (CND_mono (by omega) (CND_ag AGM_mT (fun _ _ _ => rfl) z8))
  · show m.2.1 ≤ m.2.1 + 1
    omega
  · show m.2.1 + 1 + C ≤ m.2.1 + (C + 2)
    omega
  · show m.2.2 + 6 + S0 ≤ m.2.2 + (S0 + 12)
    omega
theorem trn46 (he : e.1 ≤ x) (Z : REL x m0 C S0 YB m R I H S Ar M l) : TRN e x l0 m0 C S0 YB i 46 m := by
  have hR : hB TR 1 x R m := Z.2.1.1
  have hA : hB TA 19 (x + 26) (Ar 0) m := Z.2.1.2.2.2.2 0 (by omega)
  have hM := Z.2.2.2.1
  rcases Z.2.2.2.2.2.2.2.2.2.2.1 with ⟨rl, ml, ub⟩ | ⟨rl, ml, Y, hY, W⟩
  · have g := m283_1 (e := e) (d := 12) (b := x + 261) (m := (m.1, m.2.1 + 1, m.2.2 + 6)) (by omega) ml
    rw [ov_self (m := (m.1, m.2.1 + 1, m.2.2 + 6)) (hB_mem hM (fun _ _ => rfl))] at g
    have hC : dN e 19 133 [.ref x] m = some (.inr 1, (m.1, m.2.1 + 1, m.2.2 + 6)) := a133_1 (d := 14) hR hA rl
    have T : THR x 1 (ov TM 8 (x + 261) (mT M 1) (m.1, m.2.1 + 1, m.2.2 + 6)) := ⟨_, hB_ov, mT_00 M 1⟩
    refine ⟨_, ⟨R, I, H, S, Ar, _, l, e_rel (K := 1) Z⟩, fun t => ⟨t + 5, by omega, ?_⟩⟩
    rw [q365_46, w347_e1 hC, kI_r, g, kF_v, t164 T, kI_r, if_pos rfl, q365_154, if_neg (by decide +kernel), q365_156]
  · have hm := (WH_mk W.2.2).2
    obtain ⟨f1, f2⟩ := f2d_n (avg_fn (a := Int32.ofNat (mkN (M.1 1)) - Int32.ofNat (freS (M.1 2) (M.1 1))) (b := Int32.ofNat (mkN (M.1 1))) (o_ne (by omega) (by omega)))
    have f1' : FP.f2d (shrS (M.1 2) (M.1 1)) &&& 0x7fffffffffffffff ≤ 0x7ff0000000000000 := f1
    have hC : dN e 19 133 [.ref x] m = some (.inl (some (.float (shrS (M.1 2) (M.1 1)))), m) := a133_0 (d := 14) hR hA rl W
    obtain ⟨m2, s1, s2, s3, s4, s5⟩ := sD_o (e := e) (by omega) Z.2.2.2.2.2.2.1 (v := FP.f2d (shrS (M.1 2) (M.1 1)))
    have g := m283_0 (e := e) (d := 12) (b := x + 261) (m := m2) (by omega) ml W.2.1 W.2.2
    rw [ov_self (hB_mem hM (fun q hq => s3 _ (by omega)))] at g
    have T : THR x 0 (ov TM 8 (x + 261) (mT M 0) m2) := ⟨_, hB_ov, mT_00 M 0⟩
    have s2' : aD (ov TM 8 (x + 261) (mT M 0) m2) 2 (x + 270) (Int32.ofNat 0) = some (FP.f2d (shrS (M.1 2) (M.1 1))) := (aD_m (ov_out (by omega))).trans s2
    refine ⟨_, ⟨R, I, H, S, Ar, _, l, q0_rel Z s3 s4 s5⟩, fun t => ⟨t + 5, by omega, ?_⟩⟩
    rw [q365_46, w347_0 f1' hC s1, kI_r, g, kF_v, t164 T, kI_r, if_pos rfl, q365_154, if_pos rfl, s2', bd_s, if_pos f1']
    have dc : Op.cmpValue (FP.dcmp (FP.f2d (shrS (M.1 2) (M.1 1))) (FP.f2d (shrS (M.1 2) (M.1 1)))) .l = Int32.ofNat 0 := dcmp_n f2
    rw [if_pos dc, q365_156]
theorem trn47 (he : e.1 ≤ x) (Z : REL x m0 C S0 YB m R I H S Ar M l) : TRN e x l0 m0 C S0 YB i 47 m := by
  have hR : hB TR 1 x R m := Z.2.1.1
  have hA : hB TA 19 (x + 26) (Ar 0) m := Z.2.1.2.2.2.2 0 (by omega)
  have hM := Z.2.2.2.1
  rcases Z.2.2.2.2.2.2.2.2.2.2.1 with ⟨rl, ml, ub⟩ | ⟨rl, ml, Y, hY, W⟩
  · have g := m284_1 (e := e) (d := 12) (b := x + 261) (m := (m.1, m.2.1 + 1, m.2.2 + 6)) (by omega) ml
    rw [ov_self (m := (m.1, m.2.1 + 1, m.2.2 + 6)) (hB_mem hM (fun _ _ => rfl))] at g
    have hC : dN e 19 134 [.ref x] m = some (.inr 1, (m.1, m.2.1 + 1, m.2.2 + 6)) := a134_1 (d := 14) hR hA rl
    have T : THR x 1 (ov TM 8 (x + 261) (mT M 1) (m.1, m.2.1 + 1, m.2.2 + 6)) := ⟨_, hB_ov, mT_00 M 1⟩
    refine ⟨_, ⟨R, I, H, S, Ar, _, l, e_rel (K := 1) Z⟩, fun t => ⟨t + 5, by omega, ?_⟩⟩
    rw [q365_47, w348_e1 hC, kI_r, g, kD_v, t164 T, kI_r, if_pos rfl, q365_157, if_neg (by decide +kernel), q365_159]
  · have hC : dN e 19 134 [.ref x] m = some (.inl (some (.double (meanS (M.1 2)))), m) := a134_0 (d := 14) hR hA rl W
    obtain ⟨m2, s1, s2, s3, s4, s5⟩ := sD_o (e := e) (by omega) Z.2.2.2.2.2.2.1 (v := meanS (M.1 2))
    have g := m284_0 (e := e) (d := 12) (b := x + 261) (m := m2) (by omega) ml W.2.1
    rw [ov_self (hB_mem hM (fun q hq => s3 _ (by omega)))] at g
    have T : THR x 0 (ov TM 8 (x + 261) (mT M 0) m2) := ⟨_, hB_ov, mT_00 M 0⟩
    have s2' : aD (ov TM 8 (x + 261) (mT M 0) m2) 2 (x + 270) (Int32.ofNat 0) = some (meanS (M.1 2)) := (aD_m (ov_out (by omega))).trans s2
    refine ⟨_, ⟨R, I, H, S, Ar, _, l, q0_rel Z s3 s4 s5⟩, fun t => ⟨t + 5, by omega, ?_⟩⟩
    rw [q365_47, w348_0 hC s1, kI_r, g, kD_v, t164 T, kI_r, if_pos rfl, q365_157, if_pos rfl, s2', bd_s]
    by_cases q : Op.cmpValue (FP.dcmp (meanS (M.1 2)) (meanS (M.1 2))) .l = Int32.ofNat 0
    · rw [if_pos q, q365_159]
    · rw [if_neg q, bd_s, bd_s, if_neg q, if_neg q, q365_159]
theorem pairD (hC : dN e 20 cj (.ref x :: as) m = rI v m1) (Zl : ∀ q, q < x → m1.1 q = m0.1 q) (Z : hSys x R' I' H' S' Ar' m1) (X : hX (x + 259) (x + 271) (C + 2) (S0 + 12) l m1) (hM : hB TM 8 (x + 261) M m1) (oL : OUTL (x + 269) m1) (oD : OUTD (x + 270) m1) (hR : ∀ m', ∃ M', dN e 20 rj (.ref (x + 261) :: as) (ov TM 8 (x + 261) M m') = rI v (ov TM 8 (x + 261) M' m') ∧ yT M' l ∧ CND (YB + 50) R' I' H' S' Ar' M') : PAIRD e x m0 C S0 YB cj rj as m := by
  obtain ⟨M', g, y, c⟩ := hR m1
  rw [ov_self hM] at g
  exact ⟨v, m1, _, hC, Zl, g, ⟨R', I', H', S', Ar', M', l, rel_M Zl Z X oL oD y c⟩⟩
theorem pairD_q (Z : REL x m0 C S0 YB m R I H S Ar M l) (hC : dN e 20 cj (.ref x :: as) m = rI v m) (hR : ∀ m', dN e 20 rj (.ref (x + 261) :: as) (ov TM 8 (x + 261) M m') = rI v (ov TM 8 (x + 261) (mT M 0) m')) : PAIRD e x m0 C S0 YB cj rj as m := by
  obtain ⟨z1, z2, z3, z4, z5, z6, z7, z8⟩ := Z
  exact pairD hC z1 z2 (hX_mem z3 (fun _ _ => rfl) (Nat.le_refl _) (by omega) (by omega)) z4 z6 z7 (fun m' => ⟨mT M 0, hR m', yT_ag (mT_n (by omega)) (mT_0k (by omega)) z5, CND_mono (by omega) (CND_ag AGM_mT (fun _ _ _ => rfl) z8)⟩)
theorem pd3 (he : e.1 ≤ x) (Z : REL x m0 C S0 YB m R I H S Ar M l) : PAIRD e x m0 C S0 YB 90 202 [] m := by
  refine pairD_q Z (a90 (d := 19) Z.2.1) (fun m' => ?_)
  rw [Z.2.2.2.2.2.2.2.2.1]
  exact m202 (d := 19) (by omega)
theorem pd4 (he : e.1 ≤ x) (Z : REL x m0 C S0 YB m R I H S Ar M l) : PAIRD e x m0 C S0 YB 91 203 [] m := by
  refine pairD_q Z (a91 (d := 19) Z.2.1) (fun m' => ?_)
  rw [Z.2.2.2.2.2.2.2.2.2.1]
  exact m203 (d := 19) (by omega)
theorem pd5 (he : e.1 ≤ x) (Z : REL x m0 C S0 YB m R I H S Ar M l) : PAIRD e x m0 C S0 YB 92 201 [] m := by
  obtain ⟨k, B, b1, b2, b3, -⟩ := Z.2.2.2.2.2.2.2.1
  refine pairD_q Z (a92 (d := 19) Z.2.1) (fun m' => ?_)
  rw [b2, ← b3]
  exact m201 (d := 19) (by omega)
theorem pd62 (he : e.1 ≤ x) (Z : REL x m0 C S0 YB m R I H S Ar M l) : PAIRD e x m0 C S0 YB 149 303 [] m := by
  obtain ⟨n, c, K, k5, hi⟩ := Z.2.2.2.2.2.2.2.2.2.2.2.1
  refine pairD_q Z (b149 (d := 12) Z.2.1 K) (fun m' => ?_)
  rw [← k5]
  exact m303 (d := 19) (by omega)
theorem pd1 (he : e.1 ≤ x) (Z : REL x m0 C S0 YB m R I H S Ar M l) {y1 y2 y3 y4 y5 : Int32} : PAIRD e x m0 C S0 YB 88 200 [.int y1, .int y2, .int y3, .int y4, .int y5] m := by
  have Zc := Z
  obtain ⟨z1, z2, z3, z4, z5, z6, z7, z8⟩ := Z
  obtain ⟨⟨k, B, b1, b2, b3, b4, b5⟩, w2, w3, w4, w5, w6⟩ := z8
  by_cases hf : 600 < k + 20
  · exact pairD_q Zc (a88_f (d := 18) z2.1 z2.2.1 b2 b1 hf) (fun m' => m200_f (d := 19) (by omega) b3 b1 hf)
  · obtain ⟨I', g, g1, g2, g3⟩ := a88_0 (e := e) (d := 18) (x := x) (m := m) (by omega) z2.1 z2.2.1 b2 (by omega) (B := B) (fun j hj => (b5 j hj).1) (fun i => if i = 0 then y1 else if i = 1 then y2 else if i = 2 then y3 else if i = 3 then y4 else y5)
    have o : ∀ q, q < x + 1 ∨ x + 7 ≤ q → (ov TI 6 (x + 1) I' m).1 q = m.1 q := fun q hq => ov_out (by omega)
    refine pairD g (fun q hq => (o q (by omega)).trans (z1 q hq)) (sys_I z2 I') (hX_mem z3 (fun q hq => o q (by omega)) (Nat.le_refl _) (by show m.2.1 + C ≤ m.2.1 + (C + 2); omega) (by show m.2.2 + S0 ≤ m.2.2 + (S0 + 12); omega)) (hB_mem z4 (fun i hi => o _ (by omega))) ?_ ?_ (fun m' => ?_)
    · obtain ⟨f, z⟩ := z6
      exact ⟨f, (o _ (by omega)).trans z⟩
    · obtain ⟨f, z⟩ := z7
      exact ⟨f, (o _ (by omega)).trans z⟩
    · obtain ⟨f, r, r2⟩ := m200_0 (e := e) (d := 19) (b := x + 261) (m := m') (M := M) (by omega) b3 (by omega) (B := B) (fun i hi => (b5 i hi).2) (fun i => if i = 0 then y1 else if i = 1 then y2 else if i = 2 then y3 else if i = 3 then y4 else y5)
      refine ⟨_, r, yT_ag ?_ ?_ z5, CND_mono (YB := YB) (by omega) ?_⟩
      · rw [sF_i (by omega), uA_n (by omega), mT_n (by omega)]
      · rw [sF_n (by omega), uA_n (by omega), mT_0k (by omega)]
      · have f0 : ∀ q, q ≠ 0 → q ≠ 8 → (sF (uA (mT M 0) 5 f) 8 (Int32.ofNat (k + 20))).1 0 q = M.1 0 q := fun q h1 h2 => by rw [sF_n h2, uA_n (by omega), mT_0k h1]
        have fi : ∀ i, i ≠ 0 → i ≠ 5 → (sF (uA (mT M 0) 5 f) 8 (Int32.ofNat (k + 20))).1 i = M.1 i := fun i h1 h2 => by rw [sF_i h1, uA_n h2, mT_n h1]
        have f5 : (sF (uA (mT M 0) 5 f) 8 (Int32.ofNat (k + 20))).1 5 = f := by rw [sF_i (by omega), uA_s]
        have f8 : (sF (uA (mT M 0) 5 f) 8 (Int32.ofNat (k + 20))).1 0 8 = Int32.ofNat (k + 20) := sF_s
        generalize sF (uA (mT M 0) 5 f) 8 (Int32.ofNat (k + 20)) = M' at f0 fi f5 f8 ⊢
        refine ⟨⟨k + 20, _, by omega, g1, f8, apB_lt b4, fun j hj => ⟨g2 j hj, by rw [f5]; exact r2 j hj⟩⟩, by rw [g3, f0 9 (by omega) (by omega)]; exact w2, by rw [g3, f0 10 (by omega) (by omega)]; exact w3, ?_, HIS_ag (f0 5 (by omega) (by omega)) (fun j _ => by rw [fi 1 (by omega) (by omega)]) (fun j _ => by rw [fi 3 (by omega) (by omega)]) (fun _ _ _ => rfl) w5, SLO_ag (fi 4 (by omega) (by omega)) (fun j _ => by rw [fi 1 (by omega) (by omega)]) (fun j _ => by rw [fi 3 (by omega) (by omega)]) (fun _ _ _ => rfl) w6⟩
        rcases w4 with ⟨a, b, u⟩ | ⟨a, b, Y, y1, y2⟩
        · exact Or.inl ⟨a, by rw [f0 1 (by omega) (by omega)]; exact b, by rw [fi 2 (by omega) (by omega)]; exact u⟩
        · exact Or.inr ⟨a, by rw [f0 1 (by omega) (by omega)]; exact b, Y, y1, by rw [fi 1 (by omega) (by omega), fi 2 (by omega) (by omega)]; exact y2⟩
theorem pr2 (he : e.1 ≤ x) (Z : REL x m0 C S0 YB m R I H S Ar M l) (St0 : hSt e x m0) (hYB : 3000 ≤ YB) {y1 : Int32} : PAIR e x m0 C S0 YB 89 230 [.int y1] (ks2 2 3) m := by
  have Zc := Z
  obtain ⟨z1, z2, z3, z4, z5, z6, z7, z8⟩ := Z
  obtain ⟨⟨k, B, b1, b2, b3, b4, b5⟩, w2, w3, w4, w5, w6⟩ := z8
  have St : hSt e x m := St0.fr (fun q hq => z1 q hq)
  cases hx : rngB 0 (k : Int) y1 with
  | false => exact pair_e Zc (E := 2) (a89_2 (d := 3) z2 b2 b1 hx) (by decide) (by decide) (fun m' => m230_2 (d := 6) (by omega) b3 b1 hx)
  | true =>
    obtain ⟨j, rfl, -, jk⟩ := rng_ab (a := 0) (b := k) (by omega) hx
    obtain ⟨T, t1, t2, t3, L⟩ := a89 (e := e) (d := 3) (x := x) (m := m) (by omega) z2 b2 b1 jk b4 (fun i hi => (b5 i hi).1) St
    have L := L (M.1 2) (M.1 1)
    have LR : ∀ m', (∀ q, q < x → m'.1 q = m0.1 q) → rdL T (x + 261) m' M (dN e (6 + 14) 230 [.ref (x + 261), .int (Int32.ofNat j)] (ov TM 8 (x + 261) M m')) (textP T (M.1 2) (M.1 1)) := fun m' hm' => m230 (e := e) (d := 6) (b := x + 261) (m := m') (x := x) (by omega) (St0.fr hm') (by omega) b3 b1 jk t1 t3 (fun i hi => by rw [t2]; exact (b5 i (by omega)).2)
    cases hr : textP T (M.1 2) (M.1 1) with
    | inl z =>
      rw [hr] at L LR
      obtain ⟨m1, I2, Ar2, g1, g2, g3, g4, g5, g6, g7, g8⟩ := L
      have o : ∀ q, q < x ∨ x + 259 ≤ q → m1.1 q = m.1 q := g7
      refine pair_exc (E := 3) g1 (fun q hq => (o q (by omega)).trans (z1 q hq)) g2 (hX_mem z3 (fun q hq => o q (by omega)) (by rw [g8]; show m.2.1 ≤ m.2.1 + 1 + 1; omega) (by rw [g8]; show m.2.1 + 1 + 1 + C ≤ m.2.1 + (C + 2); omega) (by rw [g8]; show m.2.2 + 6 + 6 + S0 ≤ m.2.2 + (S0 + 12); omega)) (hB_mem z4 (fun i hi => o _ (by omega))) ?_ ?_ (by decide) (by decide) (fun m' hm' => ?_)
      · obtain ⟨f, z⟩ := z6
        exact ⟨f, (o _ (by omega)).trans z⟩
      · obtain ⟨f, z⟩ := z7
        exact ⟨f, (o _ (by omega)).trans z⟩
      · obtain ⟨M', r0, r1, r2, r3, r4, r5, r6, r7, r8, r9, r10, r11, r12⟩ := LR m' hm'
        refine ⟨_, M', r0, r1, yT_ag r11 r12 z5, CND_mono (YB := YB) (by omega) ⟨⟨0, fun _ => 0, by omega, g4, r2, fun _ => (show (0 : Nat) < 256 by omega), fun j hj => by omega⟩, g5.trans r3.symm, g6.trans r4.symm, ?_, HIS_ag r6 r7 r9 (fun i h1 h2 => g3 i (by omega)) w5, SLO_ag r10 r7 r9 (fun i h1 h2 => g3 i (by omega)) w6⟩⟩
        rcases w4 with ⟨a, b, u⟩ | ⟨a, b, Y, y1, y2⟩
        · exact Or.inl ⟨a, r5.trans b, by rw [r8 1 (by omega)]; exact u⟩
        · exact Or.inr ⟨a, r5.trans b, Y, y1, by rw [g3 0 (by omega)]; exact OKA_ag r7 r8 y2⟩
    | inr st =>
      rw [hr] at L LR
      obtain ⟨c4, s4, h4, y4⟩ := st
      obtain ⟨m1, I2, Ar2, g1, g2, g3, gy, g4, g5, g6, g7, g8, g9⟩ := L
      have gy' : y4 ≤ 500 := gy
      have g3' : OKA (2500 + y4) (Ar2 0) h4 s4 := g3
      have o : ∀ q, q < x ∨ x + 259 ≤ q → m1.1 q = m.1 q := g8
      refine pair_val g1 (fun q hq => (o q (by omega)).trans (z1 q hq)) g2 (hX_mem z3 (fun q hq => o q (by omega)) (by rw [g9]; exact Nat.le_refl _) (by rw [g9]; omega) (by rw [g9]; omega)) (hB_mem z4 (fun i hi => o _ (by omega))) ?_ ?_ (fun m' hm' => ?_)
      · obtain ⟨f, z⟩ := z6
        exact ⟨f, (o _ (by omega)).trans z⟩
      · obtain ⟨f, z⟩ := z7
        exact ⟨f, (o _ (by omega)).trans z⟩
      · obtain ⟨M', r0, r1, r2, r3, r4, r5, r6, r7, r8, r9, r10, r11, r12, -⟩ := LR m' hm'
        have r7' : M'.1 1 = h4 := r7
        have r8' : M'.1 2 = s4 := r8
        obtain ⟨n, c, K, k5, hi⟩ := w5
        refine ⟨M', r0, r1, yT_ag r11 r12 z5, CND_mono (YB := YB) (by omega) ⟨⟨0, fun _ => 0, by omega, g5, r2, fun _ => (show (0 : Nat) < 256 by omega), fun j hj => by omega⟩, g6.trans r3.symm, g7.trans r4.symm, Or.inr ⟨by rw [uA_s, wr_s], r5, 2500 + y4, by omega, by rw [r7', r8']; exact g3'⟩, ⟨n, 0, ⟨by rw [uA_s, wr_n (by omega)]; exact K.1, K.2.1, by rw [uA_s, wr_s], by omega⟩, r6, fun i hi => by omega⟩, fun q hq => Or.inl ?_⟩⟩
        have q01 : q = 0 ∨ q = 1 := by omega
        rcases q01 with rfl | rfl
        · exact ⟨by rw [uA_s, wr_n (by omega), wr_s], r9⟩
        · exact ⟨by rw [uA_s, wr_s], r10⟩
end
end

/-! ===== the names (printed by wip/p67/lw7.py) ===== -/
noncomputable section
theorem let_n {h : sV} {p : Nat} {w : List Nat} (hw : ∀ i, i < 6 → h (p + i) = nmE w i) (l6 : w.length ≤ 6) (hc : ∀ v, v ∈ w → ck v = 1) : (∀ i, i < w.length → letS h p (Int32.ofNat i) = Int32.ofNat (w.getD i 0) ∧ w.getD i 0 < 128) ∧ letS h p (Int32.ofNat w.length) = nM1 := by
  refine ⟨fun i hi => ?_, ?_⟩
  · have hm : w.getD i 0 ∈ w := by
      rw [List.getD_eq_getElem?_getD, List.getElem?_eq_getElem hi]
      exact List.getElem_mem hi
    have hv := ck_1 (hc _ hm)
    refine ⟨?_, by omega⟩
    unfold letS
    rw [rngB_t (by rw [nToI (by omega)]; omega) (by rw [nToI (by omega)]; omega), cond_true, nN_o (by omega), hw i (by omega)]
    unfold nmE
    rw [if_pos hi, if_neg (by rw [nEq (by omega) (by omega)]; omega)]
  · unfold letS
    by_cases q : w.length ≤ 5
    · rw [rngB_t (by rw [nToI (by omega)]; omega) (by rw [nToI (by omega)]; omega), cond_true, nN_o (by omega), hw _ (by omega)]
      unfold nmE
      rw [if_neg (Nat.lt_irrefl _), if_pos rfl]
    · rw [rngB_f (Or.inr (by rw [nToI (by omega)]; omega)), cond_false]
theorem h01 {h : sV} (H : WH h) {c : Nat} (hc : c < nN (h 2)) : h (110 + c) = bI (decide (h (110 + c) = Int32.ofNat 1)) := by
  obtain ⟨-, -, ⟨z1, -, z3⟩, -⟩ := H.2.2.2.2.1 c hc
  by_cases q1 : h (110 + c) = Int32.ofNat 1
  · rw [decide_eq_true q1, q1]; rfl
  · rw [decide_eq_false q1]
    have : nN (h (110 + c)) ≠ 1 := fun z => q1 (by rw [z1, z])
    rw [z1, show nN (h (110 + c)) = 0 by omega]
    rfl
section
variable {e : dEnv} {d x0 x b0 l0 N a C SS nb Y S P K R k w : Nat} {f : Nat → Int32} {ad : Nat → Nat} {h s : sV} {m : dMem}
theorem g_kind (I : GP e x0 x b0 l0 N f a nb Y ad h s C SS m) (Q : QR h S P K R) (hk : k < K) : ∃ m', GP e x0 x b0 l0 N f a nb Y ad h s (C + 8) (SS + 700) m' ∧ ∀ t, ∃ t', t ≤ t' ∧ runL e (dN e (d + 19)) 197 (t + 30) 1 [some (.ref x), some (.ref (ad 0)), some (.int (Int32.ofNat k)), none, none] [] m = runL e (dN e (d + 19)) 197 t' 1 [some (.ref x), some (.ref (ad 0)), some (.int (Int32.ofNat (k + 1))), none, none] [] m' := by
  obtain ⟨bb, l, G⟩ := I
  have nn := Q.nn
  have qe := Q.e
  obtain ⟨T, s1, s2, p1, p2, k1, k2, u1, u2⟩ := Q
  have pr := G.t.pr
  obtain ⟨r, m1, g1, Ts, F, gg⟩ := v_kind (e := e) (d := d + 11) G.2.2.2.2.2.1 (by have := G.2.2.2.2.2.2.2.2.2; omega) G.2.2.2.2.2.2.2.2.2.1 (k := k) (by omega)
  have G1 := G.fr F gg
  obtain ⟨x', Hs⟩ := Ts.s1
  obtain ⟨c1, c2, c3⟩ := (nm_ok k (by omega)).1
  obtain ⟨le1, le2⟩ := let_n (h := h) (p := 46 + 6 * k) (w := kN k) (fun i hi => T.2.2.2.2.2.1 k hk i hi) c3 c1
  refine ⟨m1, ⟨bb, l, G1⟩, fun t => ⟨t + 26 - 2 * (kN k).length, by omega, ?_⟩⟩
  have loop : ∀ n i t, i + n = (kN k).length → runL e (dN e (d + 19)) 197 (t + 2 * n + 1) 2 [some (.ref x), some (.ref (ad 0)), some (.int (Int32.ofNat k)), some (.ref r), some (.int (Int32.ofNat i))] [] m1 = runL e (dN e (d + 19)) 197 t 4 [some (.ref x), some (.ref (ad 0)), some (.int (Int32.ofNat k)), some (.ref r), none] [] m1 := by
    intro n
    induction n with
    | zero =>
      intro i t hi
      rw [Nat.mul_zero, Nat.add_zero, q197_2, s387 (d := d + 17) Hs, kI_r, if_neg (by rw [nLt (by omega) (by omega)]; omega)]
    | succ n ih =>
      intro i t hi
      obtain ⟨v1, v2⟩ := le1 i (by omega)
      rw [show t + 2 * (n + 1) + 1 = t + 2 * n + 1 + 1 + 1 by omega, q197_2, s387 (d := d + 17) Hs, kI_r, if_pos (by rw [nLt (by omega) (by omega)]; omega), cq105 (d := d) G1.c (by omega) (by omega), kI_r, s389 (d := d + 17) Hs (by omega) (by omega) v2, kI_r, if_pos v1, q197_3, nAdd, ih (i + 1) t (by omega)]
  have first : runL e (dN e (d + 19)) 197 (t + 30) 1 [some (.ref x), some (.ref (ad 0)), some (.int (Int32.ofNat k)), none, none] [] m = runL e (dN e (d + 19)) 197 (t + 29) 2 [some (.ref x), some (.ref (ad 0)), some (.int (Int32.ofNat k)), some (.ref r), some (.int (Int32.ofNat 0))] [] m1 := by
    rw [q197_1, f_K G.w, bd_s, qe.2.2.1, if_pos (by rw [nLt (by omega) (by omega)]; exact hk), g1, kR_r]
  have lp := loop (kN k).length 0 (t + 28 - 2 * (kN k).length) (by omega)
  rw [show t + 28 - 2 * (kN k).length + 2 * (kN k).length + 1 = t + 29 by omega] at lp
  rw [first, lp, show t + 28 - 2 * (kN k).length = t + 26 - 2 * (kN k).length + 1 + 1 by omega, q197_4, s387 (d := d + 17) Hs, kI_r, cq105 (d := d) G1.c (by omega) (by omega), le2, kI_r, if_pos rfl, cq106 G1.c (by omega) (by omega), kI_r, f_rper G1.w, bd_s, f_per G1.w (by omega) (by omega), bd_s, if_pos rfl, cq107 G1.c (by omega) (by omega), kI_r, f_rclo G1.w, bd_s, f_clo G1.w (by omega) (by omega), bd_s, if_pos rfl, cq108 G1.c (by omega) (by omega), kI_r, f_revr G1.w, bd_s, f_evr G1.w (by omega) (by omega), bd_s, if_pos (h01 G1.w.ws.2 (by omega)).symm, q197_6, nAdd]
theorem g_rdr (I : GP e x0 x b0 l0 N f a nb Y ad h s C SS m) (Q : QR h S P K R) (hk : k < R) : ∃ m', GP e x0 x b0 l0 N f a nb Y ad h s (C + 8) (SS + 700) m' ∧ ∀ t, ∃ t', t ≤ t' ∧ runL e (dN e (d + 19)) 197 (t + 30) 8 [some (.ref x), some (.ref (ad 0)), some (.int (Int32.ofNat k)), none, none] [] m = runL e (dN e (d + 19)) 197 t' 8 [some (.ref x), some (.ref (ad 0)), some (.int (Int32.ofNat (k + 1))), none, none] [] m' := by
  obtain ⟨bb, l, G⟩ := I
  have nn := Q.nn
  have qe := Q.e
  obtain ⟨T, s1, s2, p1, p2, k1, k2, u1, u2⟩ := Q
  have pr := G.t.pr
  obtain ⟨r, m1, g1, Ts, F, gg⟩ := v_reader (e := e) (d := d + 11) G.2.2.2.2.2.1 (by have := G.2.2.2.2.2.2.2.2.2; omega) G.2.2.2.2.2.2.2.2.2.1 (k := k) (by omega)
  have G1 := G.fr F gg
  obtain ⟨x', Hs⟩ := Ts.s1
  obtain ⟨c1, c2, c3⟩ := (nm_ok k (by omega)).2
  obtain ⟨le1, le2⟩ := let_n (h := h) (p := 4 + 6 * k) (w := rN k) (fun i hi => T.2.2.2.2.2.2 k hk i hi) c3 c1
  refine ⟨m1, ⟨bb, l, G1⟩, fun t => ⟨t + 26 - 2 * (rN k).length, by omega, ?_⟩⟩
  have loop : ∀ n i t, i + n = (rN k).length → runL e (dN e (d + 19)) 197 (t + 2 * n + 1) 9 [some (.ref x), some (.ref (ad 0)), some (.int (Int32.ofNat k)), some (.ref r), some (.int (Int32.ofNat i))] [] m1 = runL e (dN e (d + 19)) 197 t 11 [some (.ref x), some (.ref (ad 0)), some (.int (Int32.ofNat k)), some (.ref r), none] [] m1 := by
    intro n
    induction n with
    | zero =>
      intro i t hi
      rw [Nat.mul_zero, Nat.add_zero, q197_9, s387 (d := d + 17) Hs, kI_r, if_neg (by rw [nLt (by omega) (by omega)]; omega)]
    | succ n ih =>
      intro i t hi
      obtain ⟨v1, v2⟩ := le1 i (by omega)
      rw [show t + 2 * (n + 1) + 1 = t + 2 * n + 1 + 1 + 1 by omega, q197_9, s387 (d := d + 17) Hs, kI_r, if_pos (by rw [nLt (by omega) (by omega)]; omega), cq123 (d := d) G1.c (by omega) (by omega), kI_r, s389 (d := d + 17) Hs (by omega) (by omega) v2, kI_r, if_pos v1, q197_10, nAdd, ih (i + 1) t (by omega)]
  have first : runL e (dN e (d + 19)) 197 (t + 30) 8 [some (.ref x), some (.ref (ad 0)), some (.int (Int32.ofNat k)), none, none] [] m = runL e (dN e (d + 19)) 197 (t + 29) 9 [some (.ref x), some (.ref (ad 0)), some (.int (Int32.ofNat k)), some (.ref r), some (.int (Int32.ofNat 0))] [] m1 := by
    rw [q197_8, f_R G.w, bd_s, qe.2.2.2, if_pos (by rw [nLt (by omega) (by omega)]; exact hk), g1, kR_r]
  have lp := loop (rN k).length 0 (t + 28 - 2 * (rN k).length) (by omega)
  rw [show t + 28 - 2 * (rN k).length + 2 * (rN k).length + 1 = t + 29 by omega] at lp
  rw [first, lp, show t + 28 - 2 * (rN k).length = t + 26 - 2 * (rN k).length + 1 + 1 by omega, q197_11, s387 (d := d + 17) Hs, kI_r, cq123 (d := d) G1.c (by omega) (by omega), le2, kI_r, if_pos rfl, cq124 G1.c (by omega) (by omega), kI_r, f_rlim G1.w, bd_s, f_lim G1.w (by omega) (by omega), bd_s, if_pos rfl, cq125 G1.c (by omega) (by omega), kI_r, v_loans (d := d + 18) G1.w, kI_r, if_pos rfl, q197_13, nAdd]
theorem g_names (I : GE e x0 x b0 l0 N f w h C SS a Y s m) (Q : QR h S P K R) : ∃ m', dN e (d + 20) 197 [.ref x, .ref w] m = rI (bI true) m' ∧ GE e x0 x b0 l0 N f w h (C + 50) (SS + 4300) a Y s m' := by
  obtain ⟨bb, l, nb, ad, yr, G, hw, hyr, y0, yY⟩ := I
  subst hw
  have qe := Q.e
  have k3 := Q.2.2.2.2.2.2.1
  have r3 := Q.2.2.2.2.2.2.2.2
  have G0 : GP e x0 x b0 l0 N f a nb Y ad h s (C + 8 * 0) (SS + 700 * 0) m := ⟨bb, l, G⟩
  obtain ⟨m1, I1, r1⟩ := lp_exC (α := dMem) (c := 30) (n := K) (P := fun i m => GP e x0 x b0 l0 N f a nb Y ad h s (C + 8 * i) (SS + 700 * i) m) (G := fun t k m => runL e (dN e (d + 19)) 197 t 1 [some (.ref x), some (.ref (ad 0)), some (.int (Int32.ofNat k)), none, none] [] m) (fun i m hi I => by
    obtain ⟨m', I', r⟩ := g_kind (d := d) I Q hi
    exact ⟨m', I'.le (by omega) (by omega), r⟩) K 0 m (by omega) G0
  have I1' : GP e x0 x b0 l0 N f a nb Y ad h s (C + 24 + 8 * 0) (SS + 2100 + 700 * 0) m1 := I1.le (by omega) (by omega)
  obtain ⟨m2, I2, r2⟩ := lp_exC (α := dMem) (c := 30) (n := R) (P := fun i m => GP e x0 x b0 l0 N f a nb Y ad h s (C + 24 + 8 * i) (SS + 2100 + 700 * i) m) (G := fun t k m => runL e (dN e (d + 19)) 197 t 8 [some (.ref x), some (.ref (ad 0)), some (.int (Int32.ofNat k)), none, none] [] m) (fun i m hi I => by
    obtain ⟨m', I', r⟩ := g_rdr (d := d) I Q hi
    exact ⟨m', I'.le (by omega) (by omega), r⟩) R 0 m1 (by omega) I1'
  obtain ⟨bb1, l1, G1⟩ := I1
  obtain ⟨bb2, l2, G2⟩ := I2
  refine ⟨m2, ?_, ⟨bb2, l2, nb, ad, yr, G2.le (by omega) (by omega), rfl, hyr, y0, yY⟩⟩
  refine en197 fun t ht => ?_
  obtain ⟨u, rfl⟩ : ∃ u, t = u + 1000 + 1 := ⟨t - 1001, by omega⟩
  obtain ⟨v, a1, b1⟩ := r1 (u + 1000) (by omega)
  obtain ⟨v, rfl⟩ : ∃ v', v = v' + 500 + 2 := ⟨v - 502, by omega⟩
  obtain ⟨z, a2, b2⟩ := r2 (v + 500) (by omega)
  obtain ⟨z, rfl⟩ : ∃ z', z = z' + 5 := ⟨z - 5, by omega⟩
  have e1 : runL e (dN e (d + 19)) 197 (v + 500 + 2) 1 [some (.ref x), some (.ref (ad 0)), some (.int (Int32.ofNat K)), none, none] [] m1 = runL e (dN e (d + 19)) 197 (v + 500) 8 [some (.ref x), some (.ref (ad 0)), some (.int (Int32.ofNat 0)), none, none] [] m1 := by
    rw [q197_1, f_K G1.w, bd_s, qe.2.2.1, if_neg (by rw [nLt (by omega) (by omega)]; omega), q197_7]
  have e2 : runL e (dN e (d + 19)) 197 (z + 5) 8 [some (.ref x), some (.ref (ad 0)), some (.int (Int32.ofNat R)), none, none] [] m2 = rI (bI true) m2 := by
    rw [q197_8, f_R G2.w, bd_s, qe.2.2.2, if_neg (by rw [nLt (by omega) (by omega)]; omega), q197_14, rZ_1]
  rw [q197_0, b1, e1, b2, e2]
end
end

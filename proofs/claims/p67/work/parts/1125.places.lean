/-! ===== the places and their signs; the names (printed by wip/p67/lw6.py) ===== -/
noncomputable section
theorem avg_fn {a b : Int32} (hb : b ≠ 0) : FP.Core.fIsNaN (FP.fdiv (FP.i2f a) (FP.i2f b)) = false := FP.Core.fdiv_out (FP.Core.i2f_fin a).notNaN (FP.Core.i2f_fin b) (fun h => FP.Core.i2f_ne_zero hb ((FP.Core.zero_bits232 _).mp h))
theorem fcmp_n {v : UInt32} (h : FP.Core.fIsNaN v = false) : Op.cmpValue (FP.fcmp v v) .l = Int32.ofNat 0 := by
  have h1 : FP.fcmp v v = some .eq := FP.Core.fcmp_self ((FP.Core.notNaN_iff32 v).mp h)
  rw [h1]
  rfl
theorem avg_dn {a b : Int32} (hb : b ≠ 0) : FP.Core.dIsNaN (FP.ddiv (FP.i2d a) (FP.i2d b)) = false := FP.Core.ddiv_out (FP.Core.i2d_fin a).notNaN (FP.Core.i2d_fin b) (fun h => FP.Core.i2d_ne_zero hb ((FP.Core.zero_bits2 _).mp h))
theorem dcmp_n {v : UInt64} (h : FP.Core.dIsNaN v = false) : Op.cmpValue (FP.dcmp v v) .l = Int32.ofNat 0 := by
  have h1 : FP.dcmp v v = some .eq := FP.Core.dcmp_self ((FP.Core.notNaN_iff v).mp h)
  rw [h1]
  rfl
theorem hX.cs2 {a C S : Nat} {b : xB} {l : List Nat} {m m2 : dMem} (Z : hX a b C S l m) (F : ∀ q, a ≤ q → q < m.2.1 → m2.1 q = m.1 q) : hCS a l m2 := by
  obtain ⟨p, g, w, hp⟩ := Z
  have hle := hp.le
  obtain ⟨z1, z2, z3, z4, z5, z6, z7, -⟩ := hp
  obtain ⟨Ff, f0, f1, f2, f3, f4, f5, f6, f7⟩ := z1
  exact Or.inl ⟨p, _, w, ⟨Ff, (F a (Nat.le_refl _) z7.1).trans f0, f1, f2, f3, (F p hle z5).trans f4, f5, f6, f7⟩, z2, z3⟩
/-- the object and the World, what the object's text is may vary -/
def GP (e : dEnv) (x0 x b0 l0 N : Nat) (f : Nat → Int32) (a nb Y : Nat) (ad : Nat → Nat) (h s : sV) (C SS : Nat) (m : dMem) : Prop := ∃ bb l, GS e x0 x b0 l0 N f a bb C SS l nb Y ad h s Y s m
section
variable {e : dEnv} {d x0 x b0 l0 N a C SS nb Y S P K R i q k w : Nat} {f : Nat → Int32} {bb : xB} {l : List Nat} {ad : Nat → Nat} {h s : sV} {m : dMem}
theorem GP.le {C' S' : Nat} (G : GP e x0 x b0 l0 N f a nb Y ad h s C SS m) (h1 : C ≤ C') (h2 : SS ≤ S') : GP e x0 x b0 l0 N f a nb Y ad h s C' S' m := by
  obtain ⟨bb, l, G⟩ := G
  exact ⟨bb, l, G.le h1 h2⟩
/-- a place's sign -/
theorem sgn_s {m' : dMem} (G : GS e x0 x b0 l0 N f a bb C SS l nb Y ad h s Y s m') (Q : QR h S P K R) (hi : i < S) (hq : q < P) : ∀ t, ∃ t', t ≤ t' ∧ runL e (dN e (d + 19)) 195 (t + 8) 2 [some (.ref x), some (.ref (ad 0)), some (.int (Int32.ofNat i)), some (.ref m.2.1), some (.int (Int32.ofNat q)), none, none] [] m' = runL e (dN e (d + 19)) 195 t' 10 [some (.ref x), some (.ref (ad 0)), some (.int (Int32.ofNat i)), some (.ref m.2.1), some (.int (Int32.ofNat q)), some (.int (boxOnS s (Int32.ofNat (i * P + q)))), none] [.int (sgnS s h (i * P + q)), .ref m.2.1] m' := by
  have nn := Q.nn
  have qe := Q.e
  have hns := G.w.nbs
  have hat := v_at (e := e) (d := d + 18) G.w (i := i) (j := q) (by omega) (by omega)
  rw [nn.2.1] at hat
  intro t
  have st : runL e (dN e (d + 19)) 195 (t + 8) 2 [some (.ref x), some (.ref (ad 0)), some (.int (Int32.ofNat i)), some (.ref m.2.1), some (.int (Int32.ofNat q)), none, none] [] m' = (if boxOnS s (Int32.ofNat (i * P + q)) < Int32.ofNat 0 then runL e (dN e (d + 19)) 195 (t + 7) 4 [some (.ref x), some (.ref (ad 0)), some (.int (Int32.ofNat i)), some (.ref m.2.1), some (.int (Int32.ofNat q)), some (.int (boxOnS s (Int32.ofNat (i * P + q)))), none] [.null] m' else runL e (dN e (d + 19)) 195 (t + 7) 3 [some (.ref x), some (.ref (ad 0)), some (.int (Int32.ofNat i)), some (.ref m.2.1), some (.int (Int32.ofNat q)), some (.int (boxOnS s (Int32.ofNat (i * P + q)))), none] [] m') := by
    rw [q195_2, f_P G.w, bd_s, qe.2.1, if_pos (by rw [nLt (by have := Q.2.2.2.2.1; omega) (by have := Q.2.2.2.2.1; omega)]; exact hq), hat, kI_r]
  cases hf : fnd (nbS s) (fun k => decide (bx s k 4 = Int32.ofNat (i * P + q))) with
  | none =>
    have hbo : boxOnS s (Int32.ofNat (i * P + q)) = nM1 := by unfold boxOnS fI; rw [hf]; rfl
    have hsg : sgnS s h (i * P + q) = Int32.ofNat 46 := by unfold sgnS; rw [hf]
    refine ⟨t + 6, by omega, ?_⟩
    rw [st, if_pos (by rw [bo_lt (by omega)]; exact hbo), q195_4n, hsg]
  | some k =>
    obtain ⟨hk, -, -⟩ := fnd_some hf
    have hbo : boxOnS s (Int32.ofNat (i * P + q)) = Int32.ofNat k := by unfold boxOnS fI; rw [hf]; rfl
    have hkn : k < nb := by omega
    have hsg : sgnS s h (i * P + q) = (if bx s k 5 = nM1 then (if selB s k = true then Int32.ofNat 115 else if forB s h k = true then Int32.ofNat 112 else if hinS s h k = Int32.ofNat 0 then Int32.ofNat 100 else Int32.ofNat 98) else Int32.ofNat 108) := by unfold sgnS; rw [hf]
    have nlt : ¬ boxOnS s (Int32.ofNat (i * P + q)) < Int32.ofNat 0 := by
      rw [hbo, nLt (by omega) (by omega)]
      omega
    have s5 : runL e (dN e (d + 19)) 195 (t + 8) 2 [some (.ref x), some (.ref (ad 0)), some (.int (Int32.ofNat i)), some (.ref m.2.1), some (.int (Int32.ofNat q)), none, none] [] m' = runL e (dN e (d + 19)) 195 (t + 4 + 1) 5 [some (.ref x), some (.ref (ad 0)), some (.int (Int32.ofNat i)), some (.ref m.2.1), some (.int (Int32.ofNat q)), some (.int (boxOnS s (Int32.ofNat (i * P + q)))), some (.ref (ad (7 + 2 * k)))] [.ref m.2.1] m' := by
      rw [st, if_neg nlt, q195_3, f_rbxs G.w, bd_s, hbo, f_box G.w hkn (by omega), bd_s, q195_4]
    have fb7 := f_b7 G.w hkn
    have fb4 := f_b4 G.w hkn
    have fy := f_yr G.w
    rw [s5, q195_5, fb7, bd_s, hsg]
    by_cases h5 : bx s k 5 = nM1
    · rw [if_pos (by rw [hld_w G.w hkn]; exact h5), if_pos h5, q195_6, fb4, bd_s, fy, bd_s]
      by_cases hs : bx s k 3 < s 0
      · have hsl : selB s k = false := by unfold selB; rw [decide_eq_true hs]; rfl
        obtain ⟨-, cl, -⟩ := G.w.ws.1.2.2.2.1 k hk
        have hk0 : bx s k 0 = Int32.ofNat (clN s k) := (G.w.ws.1.2.2.2.1 k hk).1.1
        have fe := f_evr G.w (c := clN s k) cl (by have := nn.2.2.1; have := Q.2.2.2.2.2.2.1; omega)
        have hfb : h (110 + clN s k) = bI (forB s h k) := by
          obtain ⟨-, -, ⟨z1, -, z3⟩, -⟩ := G.w.ws.2.2.2.2.2.1 (clN s k) cl
          unfold forB
          by_cases q1 : h (110 + clN s k) = Int32.ofNat 1
          · rw [decide_eq_true q1, q1]; rfl
          · rw [decide_eq_false q1]
            have : nN (h (110 + clN s k)) ≠ 1 := fun z => q1 (by rw [z1, z])
            rw [z1, show nN (h (110 + clN s k)) = 0 by omega]
            rfl
        rw [if_pos hs, if_neg (by rw [hsl]; exact Bool.false_ne_true), q195_7, f_revr G.w, bd_s, f_b0 G.w hkn, bd_s, hk0, fe, bd_s, hfb]
        cases hfo : forB s h k with
        | true =>
          refine ⟨t + 2, by omega, ?_⟩
          rw [if_neg (by decide +kernel), if_pos rfl]
        | false =>
          rw [bI_f, if_pos rfl, if_neg Bool.false_ne_true, q195_8, v_bars (d := d + 17) G.w hkn, kI_r]
          by_cases h0 : hinS s h k = Int32.ofNat 0
          · exact ⟨t + 1, by omega, by rw [if_pos h0, if_pos h0]⟩
          · exact ⟨t, Nat.le_refl _, by rw [if_neg h0, if_neg h0, q195_9]⟩
      · have hsl : selB s k = true := by unfold selB; rw [decide_eq_false hs]; rfl
        exact ⟨t + 3, by omega, by rw [if_neg hs, if_pos hsl]⟩
    · exact ⟨t + 4, by omega, by rw [if_neg (by rw [hld_w G.w hkn]; exact h5), if_neg h5]⟩
/-- a shelf -/
theorem g_shelf (I : GP e x0 x b0 l0 N f a nb Y ad h s C SS m) (Q : QR h S P K R) (hi : i < S) : ∃ m', GP e x0 x b0 l0 N f a nb Y ad h s (C + 7) (SS + 558) m' ∧ ∀ t, ∃ t', t ≤ t' ∧ runL e (dN e (d + 19)) 195 (t + 100) 1 [some (.ref x), some (.ref (ad 0)), some (.int (Int32.ofNat i)), none, none, none, none] [] m = runL e (dN e (d + 19)) 195 t' 1 [some (.ref x), some (.ref (ad 0)), some (.int (Int32.ofNat (i + 1))), none, none, none, none] [] m' := by
  obtain ⟨bb, l, G⟩ := I
  have nn := Q.nn
  have qe := Q.e
  have P8 := Q.2.2.2.2.1
  have S6 := Q.2.2.1
  have pr := G.t.pr
  have hex := G.he
  obtain ⟨m2, g2, X2, o2, s2⟩ := x366 (e := e) (d := d + 17) (m := m) (by omega)
  have grow : ∀ {l' : List Nat} {m' : dMem}, hX m.2.1 (fun q => q < m.2.1, 0) (m.2.1 + 6) (m.2.2 + 552) l' m' → fG m m' 6 552 := fun Z => by
    have := Z.pr
    exact ⟨by omega, by omega, by omega⟩
  have loop : ∀ n q m', q + n = P → hX m.2.1 (fun q => q < m.2.1, 0) (m.2.1 + 6) (m.2.2 + 552) (rowK s h i q) m' → (∀ r, r < m.2.1 → m'.1 r = m.1 r) → ∃ m3, hX m.2.1 (fun q => q < m.2.1, 0) (m.2.1 + 6) (m.2.2 + 552) (rowK s h i P) m3 ∧ (∀ r, r < m.2.1 → m3.1 r = m.1 r) ∧ ∀ t, ∃ t', t ≤ t' ∧ runL e (dN e (d + 19)) 195 (t + 10 * n) 2 [some (.ref x), some (.ref (ad 0)), some (.int (Int32.ofNat i)), some (.ref m.2.1), some (.int (Int32.ofNat q)), none, none] [] m' = runL e (dN e (d + 19)) 195 t' 2 [some (.ref x), some (.ref (ad 0)), some (.int (Int32.ofNat i)), some (.ref m.2.1), some (.int (Int32.ofNat P)), none, none] [] m3 := by
    intro n
    induction n with
    | zero =>
      intro q m' hq Z F
      have hqP : q = P := by omega
      subst hqP
      exact ⟨m', Z, F, fun t => ⟨t, Nat.le_refl _, rfl⟩⟩
    | succ n ih =>
      intro q m' hq Z F
      have G' := G.fr F (grow Z)
      have sg := sgn_s (d := d) G' Q hi (show q < P by omega) (m := m)
      obtain ⟨v1, v2⟩ := sgn_v (s := s) (h := h) (q := i * P + q)
      obtain ⟨m4, g4, Z4, F4⟩ := x367 (e := e) (d := d + 14) Z (by rw [rowK_len]; omega) (v := nN (sgnS s h (i * P + q))) v2 (by omega)
      have F4' : ∀ r, r < m.2.1 → m4.1 r = m.1 r := fun r hr => (F4 r hr).trans (F r hr)
      have Z4' : hX m.2.1 (fun q => q < m.2.1, 0) (m.2.1 + 6) (m.2.2 + 552) (rowK s h i (q + 1)) m4 := by
        have e1 : rowK s h i (q + 1) = rowK s h i q ++ [nN (sgnS s h (i * P + q))] := by
          show rowK s h i q ++ [nN (sgnS s h (i * nN (h 1) + q))] = _
          rw [nn.2.1]
        rw [e1]
        exact Z4
      have G4 := G.fr F4' (grow Z4')
      obtain ⟨m5, Z5, F5, r5⟩ := ih (q + 1) m4 (by omega) Z4' F4'
      refine ⟨m5, Z5, F5, fun t => ?_⟩
      obtain ⟨t1, a1, b1⟩ := sg (t + 10 * n + 2)
      obtain ⟨u, rfl⟩ : ∃ u, t1 = u + 2 + 10 * n := ⟨t1 - (2 + 10 * n), by omega⟩
      have cb := cq101 (d := d) G4.c (i := i) (j := q) (by omega) (by omega)
      rw [nn.2.1] at cb
      rw [← v1] at g4
      obtain ⟨t2, a2, b2⟩ := r5 u
      refine ⟨t2, by omega, ?_⟩
      rw [show t + 10 * (n + 1) = t + 10 * n + 2 + 8 by omega, b1, show u + 2 + 10 * n = u + 10 * n + 1 + 1 by omega, q195_10, g4, kR_r, cb, kI_r, if_pos rfl, q195_11, nAdd, b2]
  obtain ⟨m3, Z3, F3, r3⟩ := loop P 0 m2 (by omega) X2 o2
  have G3 := G.mak F3 (grow Z3)
  obtain ⟨R', I', H', S', Ar, n, c, Kc, -, hl, KA⟩ := G3.c
  obtain ⟨m4, g4, Z4, F4⟩ := a136_0 (e := e) (d := d + 11) G3.he Kc.1 (Kc.2.2.2.2 0 (by omega)) hl KA (i := i) (by omega) G3.t
  have lrow : (rowS s h i).length = P := by unfold rowS; rw [rowK_len, nn.2.1]
  have G4 := G3.txt Z4 (by omega) F4
  have Z5 : hCS m.2.1 (rowS s h i) m4 := by
    unfold rowS
    rw [nn.2.1]
    exact Z3.cs2 (fun q h1 h2 => F4 q (Or.inr ⟨h1, h2⟩))
  have g5 := g_isText (d := d + 12) G4 Z5
  refine ⟨mTh m4, ⟨_, _, G4.th.le (by omega) (by omega)⟩, fun t => ?_⟩
  have first : runL e (dN e (d + 19)) 195 (t + 100) 1 [some (.ref x), some (.ref (ad 0)), some (.int (Int32.ofNat i)), none, none, none, none] [] m = runL e (dN e (d + 19)) 195 (t + 99) 2 [some (.ref x), some (.ref (ad 0)), some (.int (Int32.ofNat i)), some (.ref m.2.1), some (.int (Int32.ofNat 0)), none, none] [] m2 := by
    rw [q195_1, f_S G.w, bd_s, qe.1, if_pos (by rw [nLt (by omega) (by omega)]; exact hi), g2, kV_r]
  have fin : ∀ u, runL e (dN e (d + 19)) 195 (u + 4) 2 [some (.ref x), some (.ref (ad 0)), some (.int (Int32.ofNat i)), some (.ref m.2.1), some (.int (Int32.ofNat P)), none, none] [] m3 = runL e (dN e (d + 19)) 195 (u + 1) 1 [some (.ref x), some (.ref (ad 0)), some (.int (Int32.ofNat (i + 1))), none, none, none, none] [] (mTh m4) := by
    intro u
    rw [q195_2, f_P G3.w, bd_s, qe.2.1, if_neg (by rw [nLt (by omega) (by omega)]; omega), q195_12, g4, kI_r, g5, kI_r, if_neg (by decide +kernel), q195_13, nAdd]
  obtain ⟨v, hv⟩ : ∃ v, t + 99 = v + 10 * P ∧ t + 5 ≤ v := ⟨t + 99 - 10 * P, by omega, by omega⟩
  obtain ⟨t2, a2, b2⟩ := r3 v
  obtain ⟨u2, rfl⟩ : ∃ u, t2 = u + 4 := ⟨t2 - 4, by omega⟩
  refine ⟨u2 + 1, by omega, ?_⟩
  rw [first, hv.1, b2, fin]
/-- all shelves -/
theorem g_places (I : GE e x0 x b0 l0 N f w h C SS a Y s m) (Q : QR h S P K R) : ∃ m', dN e (d + 20) 195 [.ref x, .ref w] m = rI (bI true) m' ∧ GE e x0 x b0 l0 N f w h (C + 50) (SS + 3400) a Y s m' := by
  obtain ⟨bb, l, nb, ad, yr, G, hw, hyr, y0, yY⟩ := I
  subst hw
  have nn := Q.nn
  have qe := Q.e
  have S6 := Q.2.2.1
  have G0 : GP e x0 x b0 l0 N f a nb Y ad h s (C + 7 * 0) (SS + 558 * 0) m := ⟨bb, l, G⟩
  obtain ⟨m1, I1, r1⟩ := lp_exC (α := dMem) (c := 100) (n := S) (P := fun i m => GP e x0 x b0 l0 N f a nb Y ad h s (C + 7 * i) (SS + 558 * i) m) (G := fun t i m => runL e (dN e (d + 19)) 195 t 1 [some (.ref x), some (.ref (ad 0)), some (.int (Int32.ofNat i)), none, none, none, none] [] m) (fun i m hi I => by
    obtain ⟨m', I', r⟩ := g_shelf (d := d) I Q hi
    exact ⟨m', I'.le (by omega) (by omega), r⟩) S 0 m (by omega) G0
  obtain ⟨bb1, l1, G1⟩ := I1
  have hSP : S * P = mkN h := nn.2.2.2.2.1.symm
  have hmk : mkN h ≠ 0 := by omega
  have hfr := fre_kep G1.w.inv G1.w.ws.1 (by omega)
  have shr : shrS s h = FP.fdiv (FP.i2f (Int32.ofNat (S * P) - Int32.ofNat (freS s h))) (FP.i2f (Int32.ofNat (S * P))) := by rw [hSP]; rfl
  have nz : Int32.ofNat (S * P) ≠ 0 := o_ne (by omega) (by omega)
  have t1 := tt_1 (d := d) G1.c (y := Int32.ofNat S) (z := Int32.ofNat 0) (by rw [rngB_f (Or.inr (by rw [nToI (by omega)]; omega)), Bool.false_and])
  have G2 := G1.th
  have t2 := tt_1 (d := d) G2.c (y := Int32.ofNat 0) (z := Int32.ofNat P) (by rw [rngB_f (y := Int32.ofNat P) (Or.inr (by rw [nToI (by have := Q.2.2.2.2.1; omega)]; omega)), Bool.and_false])
  have G3 := G2.th
  have t3 := tt_20 (d := d) G3.c (y := nM1) (z := Int32.ofNat 0) (rngB_f (Or.inl (by rw [nM1_i]; omega)))
  have G4 := G3.th
  refine ⟨_, ?_, ⟨bb1, l1, nb, ad, yr, G4.le (by omega) (by omega), rfl, hyr, y0, yY⟩⟩
  refine en195 fun t ht => ?_
  obtain ⟨u, rfl⟩ : ∃ u, t = u + 1000 + 1 := ⟨t - 1001, by omega⟩
  obtain ⟨v, a1, b1⟩ := r1 (u + 1000) (by omega)
  obtain ⟨v, rfl⟩ : ∃ v', v = v' + 10 := ⟨v - 10, by omega⟩
  rw [q195_0, b1, q195_1, f_S G1.w, bd_s, qe.1, if_neg (by rw [nLt (by omega) (by omega)]; omega), q195_14, f_S G1.w, bd_s, f_P G1.w, bd_s, qe.1, qe.2.1, nMul, v_room (d := d + 17) G1.w, kI_r, if_pos (avg_f nz), cq133 G1.c, kF_r, shr, if_pos (fcmp_n (avg_fn nz)), f_S G1.w, bd_s, qe.1, t1, kI_r, if_pos rfl, f_P G2.w, bd_s, qe.2.1, t2, kI_r, if_pos rfl, t3, kI_r, if_pos rfl, q195_16, rZ_1]
end
end

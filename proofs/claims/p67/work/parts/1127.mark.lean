/-! ===== the boxes, their marks, the list (printed by wip/p67/lw8.py) ===== -/
noncomputable section
theorem hX.cs3 {a C S : Nat} {b : xB} {l : List Nat} {m m2 : dMem} (Z : hX a b C S l m) (F : ∀ q, a ≤ q → ¬ b.1 q → q < m.2.1 → m2.1 q = m.1 q) : hCS a l m2 := by
  obtain ⟨p, g, w, hp⟩ := Z
  have hle := hp.le
  obtain ⟨z1, z2, z3, z4, z5, z6, z7, -⟩ := hp
  obtain ⟨Ff, f0, f1, f2, f3, f4, f5, f6, f7⟩ := z1
  exact Or.inl ⟨p, _, w, ⟨Ff, (F a (Nat.le_refl _) z4.1 z7.1).trans f0, f1, f2, f3, (F p hle z4.2 z5).trans f4, f5, f6, f7⟩, z2, z3⟩
/-- a text whose cells are as they were: all else may be protected -/
theorem hX.re {a C S : Nat} {b : xB} {l : List Nat} {m m1 : dMem} (Z : hX a b C S l m) (hk : b.2 = 0) (F : ∀ q, a ≤ q → q < m.2.1 → m1.1 q = m.1 q) (hle : m.2.1 ≤ m1.2.1) : hX a (fun q => q < m1.2.1 ∧ ¬ (a ≤ q ∧ q < m.2.1), 0) (m1.2.1 + 4) (m1.2.2 + 532) l m1 := by
  obtain ⟨p, g, w, hp⟩ := Z
  have hap := hp.le
  obtain ⟨z1, z2, z3, z4, z5, z6, z7, z8, z9, z10⟩ := hp
  obtain ⟨Ff, f0, f1, f2, f3, f4, f5, f6, f7⟩ := z1
  have z71 := z7.1
  rw [hk] at z8
  refine ⟨p, g, w, ⟨Ff, (F a (Nat.le_refl _) z71).trans f0, f1, f2, f3, (F p hap z5).trans f4, f5, f6, f7⟩, z2, z3, ⟨fun q => q.2 ⟨Nat.le_refl _, z71⟩, fun q => q.2 ⟨hap, z5⟩⟩, by omega, fun q hq => ⟨by omega, fun z => by omega⟩, ⟨by omega, fun q hq => hq.1⟩, z8, ?_, ?_⟩
  · rcases gK_c z8 with ⟨-, q⟩ | ⟨q, -⟩
    · rcases q with q | q | q | q | q <;> subst q <;> (show m1.2.1 + _ ≤ m1.2.1 + 4; exact Nat.add_le_add_left (by decide) _)
    · cases q
  · rcases gK_c z8 with ⟨-, q⟩ | ⟨q, -⟩
    · rcases q with q | q | q | q | q <;> subst q <;> (show m1.2.2 + _ ≤ m1.2.2 + 532; exact Nat.add_le_add_left (by decide) _)
    · cases q
/-- the letters of a name, as the object writes them -/
theorem nmK_n {h : sV} {p : Nat} {w : List Nat} (hw : ∀ i, i < 6 → h (p + i) = nmE w i) (hc : ∀ v, v ∈ w → ck v = 1) : ∀ n i, i + n = 6 → w.length ≤ 6 → nmK h p n i = w.drop i
  | 0, i, hi, hl => by
    rw [List.drop_eq_nil_of_le (by omega)]
    rfl
  | n + 1, i, hi, hl => by
    unfold nmK
    rw [hw i (by omega)]
    unfold nmE
    by_cases q : i < w.length
    · have hm : w.getD i 0 ∈ w := by
        rw [List.getD_eq_getElem?_getD, List.getElem?_eq_getElem q]
        exact List.getElem_mem q
      have hv := ck_1 (hc _ hm)
      rw [if_pos q, if_neg (by rw [nEq (by omega) (by omega)]; omega), nN_o (by omega), nmK_n hw hc n (i + 1) (by omega) hl, List.drop_eq_getElem_cons q]
      rw [List.getD_eq_getElem?_getD, List.getElem?_eq_getElem q]
      rfl
    · rw [if_neg q, if_pos rfl, List.drop_eq_nil_of_le (by omega)]
section
variable {e : dEnv} {d x0 x b0 l0 N a C SS nb Y S P K R k w lq : Nat} {f : Nat → Int32} {bb : xB} {l : List Nat} {ad : Nat → Nat} {h s : sV} {m : dMem}
/-- cells that are protected change, new ones come and are protected -/
theorem GS.ot (G : GS e x0 x b0 l0 N f a bb C SS l nb Y ad h s Y s m) {m' : dMem} {c z : Nat} (D : Nat → Prop) (hD : ∀ q, D q → bb.1 q ∧ x + 259 ≤ q ∧ ∀ i, i < 7 + 2 * nb → ad i ≠ q) (F : ∀ q, q < m.2.1 → ¬ D q → m'.1 q = m.1 q) (g : fG m m' c z) : GS e x0 x b0 l0 N f a (fun q => bb.1 q ∨ (m.2.1 ≤ q ∧ q < m'.2.1), bb.2) (C + c) (SS + z) l nb Y ad h s Y s m' := by
  obtain ⟨w, k, t, tl, dg, st, dr, pl, pb, px⟩ := G
  have pr := t.pr
  have p1 := pr.2.1
  have lo : ∀ q, q < x + 259 → ¬ D q := fun q hq hd => by have := (hD q hd).2.1; omega
  exact ⟨w.fr (fun i hi => F _ (pr.2.2.1 _ (pl i hi).1) (fun hd => (hD _ hd).2.2 i hi rfl)) (fun i hi => Nat.lt_of_lt_of_le (pr.2.2.1 _ (pl i hi).1) g.1), k.eq (fun q h1 h2 => F q (by omega) (lo q h2)), t.gr _ (fun q h => h) (fun q h => Or.inl (pr.1 q h)) g (fun q h1 h2 => F q h1 (fun hd => h2 (hD q hd).1)), tl, dg.fr (fun q h => F q (by omega) (lo q (by omega))), st.fr (fun q h => F q (by omega) (lo q (by omega))), dr.fr (F _ (by omega) (lo _ (by omega))) (F _ (by omega) (lo _ (by omega))), fun i hi => ⟨Or.inl (pl i hi).1, (pl i hi).2⟩, pb, px⟩
/-- the mark of a box is put together -/
theorem b_mark (G : GS e x0 x b0 l0 N f a bb C SS l nb Y ad h s Y s m) (Q : QR h S P K R) (hk : k < nb) : ∃ r m1 m2 m3 m4, dN e (d + 19) 366 [.ref m.2.1] (nO m 1 (dNf 1) (dDef 1)) = some (.inl none, m1) ∧ (∀ t, ∃ t', t ≤ t' ∧ runL e (dN e (d + 19)) 196 (t + 2) 1 [some (.ref x), some (.ref (ad 0)), some (.int (sumI (fun k => if gonB s k = true then Int32.ofNat 0 else s 0 - bx s k 1) k)), some (.int (Int32.ofNat (cnt (fun k => !gonB s k) k))), some (.int (oI (ndF s h k))), some (.ref (lq)), some (.int (Int32.ofNat k)), none, none, none] [] m = runL e (dN e (d + 19)) 196 t' 3 [some (.ref x), some (.ref (ad 0)), some (.int (sumI (fun k => if gonB s k = true then Int32.ofNat 0 else s 0 - bx s k 1) k)), some (.int (Int32.ofNat (cnt (fun k => !gonB s k) k))), some (.int (oI (ndF s h k))), some (.ref (lq)), some (.int (Int32.ofNat k)), some (.ref (ad (7 + 2 * k))), some (.ref (m.2.1)), none] [] m2) ∧ dN e (d + 19) 367 [.ref m.2.1, .int (Int32.ofNat 47)] m2 = some (.inl (some (.ref m.2.1)), m3) ∧ gI m3 (ad (7 + 2 * k)) 10 0 = some (bx s k 0) ∧ dN e (d + 19) 168 [.int (bx s k 0)] m3 = some (.inl (some (.ref r)), m4) ∧ ∃ m5 bt, dN e (d + 19) 392 [.ref m.2.1, .ref r] m4 = some (.inl (some (.ref m.2.1)), m5) ∧ hX m.2.1 bt (m.2.1 + 14) (m.2.2 + 1252) (mrkS s h k) m5 ∧ (∀ q, q < m.2.1 → bt.1 q) ∧ (∀ q, q < m.2.1 → m5.1 q = m.1 q) ∧ fG m m5 14 1252 := by
  have nn := Q.nn
  have qe := Q.e
  have QQ := Q
  obtain ⟨T, s1, s2, p1, p2, k1, k2, u1, u2⟩ := Q
  have hns := G.w.nbs
  have hks : k < nbS s := by omega
  have pr := G.t.pr
  have hex := G.he
  have wb := G.w.ws.1.2.2.2.1 k hks
  obtain ⟨v, e0, -, -, v4⟩ := wb.1.ex
  have ecl : clN s k = v := by unfold clN; rw [e0]; exact nN_o (by omega)
  have hvK : v < K := by have := wb.2.1; omega
  obtain ⟨m1, g1, X1, o1, s1'⟩ := x366 (e := e) (d := d + 17) (m := m) (by omega)
  have grow : ∀ {l' : List Nat} {m' : dMem}, hX m.2.1 (fun q => q < m.2.1, 0) (m.2.1 + 6) (m.2.2 + 552) l' m' → fG m m' 6 552 := fun Z => by
    have := Z.pr
    exact ⟨by omega, by omega, by omega⟩
  -- the first letters
  have pre : ∃ m2 lp, hX m.2.1 (fun q => q < m.2.1, 0) (m.2.1 + 6) (m.2.2 + 552) lp m2 ∧ (∀ q, q < m.2.1 → m2.1 q = m.1 q) ∧ lp.length ≤ 10 ∧ lp = (if gonB s k = true then [45] else [65 + nN (bx s k 4) / nN (h 1)] ++ dig (nN (bx s k 4) % nN (h 1))) ∧ ∀ t, ∃ t', t ≤ t' ∧ runL e (dN e (d + 19)) 196 (t + 2) 1 [some (.ref x), some (.ref (ad 0)), some (.int (sumI (fun k => if gonB s k = true then Int32.ofNat 0 else s 0 - bx s k 1) k)), some (.int (Int32.ofNat (cnt (fun k => !gonB s k) k))), some (.int (oI (ndF s h k))), some (.ref (lq)), some (.int (Int32.ofNat k)), none, none, none] [] m = runL e (dN e (d + 19)) 196 t' 3 [some (.ref x), some (.ref (ad 0)), some (.int (sumI (fun k => if gonB s k = true then Int32.ofNat 0 else s 0 - bx s k 1) k)), some (.int (Int32.ofNat (cnt (fun k => !gonB s k) k))), some (.int (oI (ndF s h k))), some (.ref (lq)), some (.int (Int32.ofNat k)), some (.ref (ad (7 + 2 * k))), some (.ref (m.2.1)), none] [] m2 := by
    have Ga := G.fr o1 (grow X1)
    have g10 := f_b10g Ga.w hk
    have st : ∀ t, runL e (dN e (d + 19)) 196 (t + 1) 1 [some (.ref x), some (.ref (ad 0)), some (.int (sumI (fun k => if gonB s k = true then Int32.ofNat 0 else s 0 - bx s k 1) k)), some (.int (Int32.ofNat (cnt (fun k => !gonB s k) k))), some (.int (oI (ndF s h k))), some (.ref (lq)), some (.int (Int32.ofNat k)), none, none, none] [] m = (if bI (gonB s k) = Int32.ofNat 0 then runL e (dN e (d + 19)) 196 t 2 [some (.ref x), some (.ref (ad 0)), some (.int (sumI (fun k => if gonB s k = true then Int32.ofNat 0 else s 0 - bx s k 1) k)), some (.int (Int32.ofNat (cnt (fun k => !gonB s k) k))), some (.int (oI (ndF s h k))), some (.ref (lq)), some (.int (Int32.ofNat k)), some (.ref (ad (7 + 2 * k))), some (.ref (m.2.1)), none] [] m1 else kR (dN e (d + 19) 367 [.ref m.2.1, .int (Int32.ofNat 45)] m1) dPass fun v7 m6 => runL e (dN e (d + 19)) 196 t 3 [some (.ref x), some (.ref (ad 0)), some (.int (sumI (fun k => if gonB s k = true then Int32.ofNat 0 else s 0 - bx s k 1) k)), some (.int (Int32.ofNat (cnt (fun k => !gonB s k) k))), some (.int (oI (ndF s h k))), some (.ref (lq)), some (.int (Int32.ofNat k)), some (.ref (ad (7 + 2 * k))), some (.ref (m.2.1)), none] [] m6) := by
      intro t
      rw [q196_1, f_nb G.w, bd_s, if_pos (by rw [nLt (by omega) (by omega)]; exact hk), f_rbxs G.w, bd_s, f_box G.w hk (by omega), bd_s, g1, kV_r, g10, bd_s]
    cases hg : gonB s k with
    | true =>
      obtain ⟨m2, g2, X2, o2⟩ := x367 (e := e) (d := d + 14) X1 (by decide) (v := 45) (by omega) (by omega)
      refine ⟨m2, _, X2, fun q hq => (o2 q hq).trans (o1 q hq), by decide, by rw [if_pos rfl]; rfl, fun t => ⟨t + 1, by omega, ?_⟩⟩
      rw [st, hg, if_neg (by decide +kernel), g2, kR_r]
    | false =>
      obtain ⟨u, u', e5, e6, hu⟩ := f_b56 Ga.w hk
      obtain ⟨i, j, i1, j1, rfl, rfl, hq⟩ := hu hg
      have hb4 : nN (bx s k 4) = i * P + j := by
        have := mk_lt i1 j1
        rw [hq, nN_o (by rw [nn.1, nn.2.1] at *; omega), nn.2.1]
      rw [nn.1] at i1
      rw [nn.2.1] at j1
      have hdv : (i * P + j) / P = i := by rw [Nat.mul_comm, Nat.mul_add_div (by omega), Nat.div_eq_of_lt j1, Nat.add_zero]
      have hmd : (i * P + j) % P = j := by rw [Nat.mul_comm, Nat.mul_add_mod, Nat.mod_eq_of_lt j1]
      obtain ⟨m2, g2, X2, o2⟩ := x367 (e := e) (d := d + 14) X1 (by decide) (v := 65 + i) (by omega) (by omega)
      have o2' : ∀ q, q < m.2.1 → m2.1 q = m.1 q := fun q hq => (o2 q hq).trans (o1 q hq)
      have Gb := G.fr o2' (grow X2)
      obtain ⟨u, u', e5', e6', hu'⟩ := f_b56 Gb.w hk
      obtain ⟨i', j', i1', j1', rfl, rfl, hq'⟩ := hu' hg
      have hj : j' = j := by
        rw [nn.2.1] at j1'
        have hb4' : nN (bx s k 4) = i' * P + j' := by
          rw [nn.1] at i1'
          have h1 : i' * P + j' < S * P := mk_lt i1' j1'
          rw [hq', nN_o (by rw [nn.2.1]; omega), nn.2.1]
        have := mk_uniq j1' j1 (hb4'.symm.trans hb4)
        exact this.2
      subst hj
      obtain ⟨m3, g3, X3, o3⟩ := x368 (e := e) (d := d + 14) (x := x) X2 (v := j') (by show 1 ≤ 280; omega) (by omega) (G.dg.fr (fun q hq => o2' q (by omega))) (by omega) (by omega)
      have ld := dl1 (v := j') (by omega)
      refine ⟨m3, _, X3, fun q hq => (o3 q hq).trans (o2' q hq), ?_, ?_, fun t => ⟨t, Nat.le_refl _, ?_⟩⟩
      · simp only [List.length_append, List.length_cons, List.length_nil]
        omega
      · rw [if_neg Bool.false_ne_true, hb4, nn.2.1, hdv, hmd]
        rfl
      · rw [st, hg, bI_f, if_pos rfl, q196_2, e5, bd_s, nAdd, c16 (by omega), g2, kR_r, e6', bd_s, g3, kR_r]
  obtain ⟨m2, lp, X2, o2, l2, e2, r2⟩ := pre
  obtain ⟨m3, g3, X3, o3⟩ := x367 (e := e) (d := d + 14) X2 (by omega) (v := 47) (by omega) (by omega)
  have o3' : ∀ q, q < m.2.1 → m3.1 q = m.1 q := fun q hq => (o3 q hq).trans (o2 q hq)
  have G3 := G.fr o3' (grow X3)
  have st3 : hSt e x0 m3 := G3.2.2.2.2.2.1
  have px := G.2.2.2.2.2.2.2.2.2
  have m3p := X3.pr
  obtain ⟨r, m4, g4, Ts, F4, gg⟩ := v_kind (e := e) (d := d + 11) st3 (by omega) px.1 (k := v) (by omega)
  have X4 := X3.gr (fun q => q < m.2.1 ∨ (m3.2.1 ≤ q ∧ q < m4.2.1)) (fun q h => h) (fun q h => Or.inl h) gg (fun q h1 h2 => F4 q h1)
  have kok := kN_ok v (by omega)
  obtain ⟨m5, g5, X5, o5⟩ := x392 (e := e) (d := d + 13) X4 (Ts.mono (fun q h => by
    rcases h.1 with y | y
    · exact Or.inl (by omega)
    · exact Or.inr ⟨y, h.2⟩)) kok.1.1 kok.1.2 (by show _ ≤ 286; simp only [List.length_append, List.length_cons, List.length_nil]; have := kok.1.1; omega) (by omega)
  have o5' : ∀ q, q < m.2.1 → m5.1 q = m.1 q := fun q hq => (o5 q (Or.inl hq)).trans ((F4 q (by omega)).trans (o3' q hq))
  have m5p := X5.pr
  refine ⟨r, m1, m2, m3, m4, g1, r2, g3, f_b0 G3.w hk, by rw [e0]; exact g4, m5, ((fun q => q < m.2.1 ∨ (m3.2.1 ≤ q ∧ q < m4.2.1)), 0), g5, ?_, fun q hq => Or.inl hq, o5', by omega, by omega, by omega⟩
  have e3 : lp ++ [47] ++ kN v = mrkS s h k := by
    unfold mrkS
    rw [← e2, ecl, nmK_n (w := kN v) (fun i hi => T.2.2.2.2.2.1 v hvK i hi) (nm_ok v (by omega)).1.1 6 0 (by omega) (nm_ok v (by omega)).1.2.2]
    rfl
  rw [← e3]
  exact X5.le1 (by omega) (by omega)
end
end

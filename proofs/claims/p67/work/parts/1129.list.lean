/-! ===== the list's text; all the boxes (printed by wip/p67/lw10.py) ===== -/
noncomputable section
theorem hX.cs4 {a C S : Nat} {b : xB} {l : List Nat} {m m2 : dMem} (Z : hX a b C S l m) (F : ∀ q, a ≤ q → ¬ b.1 q → q < m.2.1 → m2.1 q = m.1 q) : ∃ p L w, hT a m2 p L l.length w ∧ (∀ i, i < l.length → w i = Int32.ofNat (l.getD i 0)) ∧ ∀ v, v ∈ l → v < 128 := by
  obtain ⟨p, g, w, hp⟩ := Z
  have hle := hp.le
  obtain ⟨z1, z2, z3, z4, z5, z6, z7, -⟩ := hp
  obtain ⟨Ff, f0, f1, f2, f3, f4, f5, f6, f7⟩ := z1
  exact ⟨p, _, w, ⟨Ff, (F a (Nat.le_refl _) z4.1 z7.1).trans f0, f1, f2, f3, (F p hle z4.2 z5).trans f4, f5, f6, f7⟩, z2, z3⟩
theorem mean_n {s : sV} : Op.cmpValue (FP.dcmp (meanS s) (meanS s)) .l = Int32.ofNat 0 := by
  unfold meanS
  by_cases q : kepN s = 0
  · rw [if_pos q]
    exact dcmp_n (by decide +kernel)
  · rw [if_neg q]
    have hk : kepN s < 2147483648 := by
      have := cnt_le (fun k => !gonB s k) (nbS s)
      have h2 := nN_lt31 (s 1)
      unfold kepN nbS at *
      omega
    exact dcmp_n (avg_dn (o_ne hk q))
section
variable {e : dEnv} {d x0 x b0 l0 N a C SS nb Y S P K R k w lq : Nat} {f : Nat → Int32} {bb : xB} {l : List Nat} {ad : Nat → Nat} {h s : sV} {m m0 m1 : dMem}
def bL (lq n : Nat) : xB := (fun q => q < n ∧ ¬ (lq ≤ q ∧ q < lq + 2), 0)
/-- while the list's text grows -/
theorem ls_G (G : GS e x0 x b0 l0 N f a bb C SS l nb Y ad h s Y s m1) (hb1 : bb.1 lq) (hb2 : bb.1 (lq + 1)) (hx : x + 259 ≤ lq) (had : ∀ i, i < 7 + 2 * nb → ad i < lq) {l' : List Nat} {m' : dMem} (Z : hX lq (bL lq m1.2.1) (m1.2.1 + 4) (m1.2.2 + 532) l' m') (F : ∀ q, (bL lq m1.2.1).1 q → m'.1 q = m1.1 q) (hm : m1.2.1 ≤ m'.2.1) : GS e x0 x b0 l0 N f a (fun q => bb.1 q ∨ (m1.2.1 ≤ q ∧ q < m'.2.1), bb.2) (C + 4) (SS + 532) l nb Y ad h s Y s m' := by
  have pr := Z.pr
  refine G.ot (fun q => lq ≤ q ∧ q < lq + 2) (fun q hq => ⟨?_, by omega, fun i hi z => by have := had i hi; omega⟩) (fun q h1 h2 => F q ⟨h1, h2⟩) ⟨hm, by omega, by omega⟩
  have : q = lq ∨ q = lq + 1 := by omega
  rcases this with z | z <;> subst z <;> assumption
theorem ls_step (hY : Y + 100 ≤ 1000000) (G : GS e x0 x b0 l0 N f a bb C SS l nb Y ad h s Y s m1) (hb1 : bb.1 lq) (hb2 : bb.1 (lq + 1)) (hx : x + 259 ≤ lq) (had : ∀ i, i < 7 + 2 * nb → ad i < lq) (hlm : lq + 2 ≤ m1.2.1) (hk : k < nlS s) {m' : dMem} (Z : hX lq (bL lq m1.2.1) (m1.2.1 + 4) (m1.2.2 + 532) (lstK s h k) m') (F : ∀ q, (bL lq m1.2.1).1 q → m'.1 q = m1.1 q) (hm : m1.2.1 ≤ m'.2.1) : ∃ m2, hX lq (bL lq m1.2.1) (m1.2.1 + 4) (m1.2.2 + 532) (lstK s h (k + 1)) m2 ∧ (∀ q, (bL lq m1.2.1).1 q → m2.1 q = m1.1 q) ∧ m1.2.1 ≤ m2.2.1 ∧ ∀ t, ∃ t', t ≤ t' ∧ runL e (dN e (d + 19)) 196 (t + 3) 14 [some (.ref x), some (.ref (ad 0)), some (.int (sumI (fun k => if gonB s k = true then Int32.ofNat 0 else s 0 - bx s k 1) nb)), some (.int (Int32.ofNat (cnt (fun k => !gonB s k) nb))), some (.int (oI (ndF s h nb))), some (.ref (lq)), some (.int (Int32.ofNat k)), none, none, none] [] m' = runL e (dN e (d + 19)) 196 t' 14 [some (.ref x), some (.ref (ad 0)), some (.int (sumI (fun k => if gonB s k = true then Int32.ofNat 0 else s 0 - bx s k 1) nb)), some (.int (Int32.ofNat (cnt (fun k => !gonB s k) nb))), some (.int (oI (ndF s h nb))), some (.ref (lq)), some (.int (Int32.ofNat (k + 1))), none, none, none] [] m2 := by
  obtain ⟨Ws, H⟩ := G.w.ws
  have hl24 : nlS s ≤ 24 := Ws.2.1.2.2
  have hl2 : s 2 = Int32.ofNat (nlS s) := Ws.2.1.1
  have hex := G.he
  have mk := @ls_G e x0 x b0 l0 N a C SS nb Y lq f bb l ad h s m1 G hb1 hb2 hx had
  have G' := mk Z F hm
  have px := G.2.2.2.2.2.2.2.2.2
  obtain ⟨w1, w2, w3⟩ := Ws.2.2.2.2.1 k hk
  obtain ⟨b, e3, -, -, b23⟩ := w1.ex
  have nb3 : nN (s (3 + k)) = b := by rw [e3]; exact nN_o (by omega)
  have hns := G.w.nbs
  have hbn : b < nb := by omega
  have dv := due_v (k := b) hY Ws H hk e3 (by omega)
  have ll := (lstK_len (q := k) hY Ws H (by omega)).1
  have str : ∀ j, j < 36 → hS2 (bL lq m1.2.1).1 m' (e.2 j) (wd j) := fun j hj => (G'.2.2.2.2.2.1 j hj).to2.mono (fun q hq => by
    have h1 : q < x0 := hq
    exact ⟨by omega, fun z => by omega⟩)
  have b2z : (bL lq m1.2.1).2 = 0 := rfl
  have gm : gM (bL lq m1.2.1).2 = 286 := rfl
  -- what stands between
  obtain ⟨c, m2, c1, g2, X2, o2, lc⟩ : ∃ c m2, (∀ t, ∃ t', t ≤ t' ∧ runL e (dN e (d + 19)) 196 (t + 2) 14 [some (.ref x), some (.ref (ad 0)), some (.int (sumI (fun k => if gonB s k = true then Int32.ofNat 0 else s 0 - bx s k 1) nb)), some (.int (Int32.ofNat (cnt (fun k => !gonB s k) nb))), some (.int (oI (ndF s h nb))), some (.ref (lq)), some (.int (Int32.ofNat k)), none, none, none] [] m' = runL e (dN e (d + 19)) 196 t' 16 [some (.ref x), some (.ref (ad 0)), some (.int (sumI (fun k => if gonB s k = true then Int32.ofNat 0 else s 0 - bx s k 1) nb)), some (.int (Int32.ofNat (cnt (fun k => !gonB s k) nb))), some (.int (oI (ndF s h nb))), some (.ref (lq)), some (.int (Int32.ofNat k)), none, none, none] [.ref c, .ref lq] m') ∧ dN e (d + 19) 392 [.ref lq, .ref c] m' = some (.inl (some (.ref lq)), m2) ∧ hX lq (bL lq m1.2.1) (m1.2.1 + 4) (m1.2.2 + 532) (if 0 < k then lstK s h k ++ [32] else lstK s h k) m2 ∧ frX lq (bL lq m1.2.1) m' m2 ∧ (if 0 < k then lstK s h k ++ [32] else lstK s h k).length ≤ 10 * k + 1 := by
    have st : ∀ t, runL e (dN e (d + 19)) 196 (t + 1) 14 [some (.ref x), some (.ref (ad 0)), some (.int (sumI (fun k => if gonB s k = true then Int32.ofNat 0 else s 0 - bx s k 1) nb)), some (.int (Int32.ofNat (cnt (fun k => !gonB s k) nb))), some (.int (oI (ndF s h nb))), some (.ref (lq)), some (.int (Int32.ofNat k)), none, none, none] [] m' = (if Int32.ofNat 0 < Int32.ofNat k then runL e (dN e (d + 19)) 196 t 16 [some (.ref x), some (.ref (ad 0)), some (.int (sumI (fun k => if gonB s k = true then Int32.ofNat 0 else s 0 - bx s k 1) nb)), some (.int (Int32.ofNat (cnt (fun k => !gonB s k) nb))), some (.int (oI (ndF s h nb))), some (.ref (lq)), some (.int (Int32.ofNat k)), none, none, none] [.ref (e.2 33), .ref lq] m' else runL e (dN e (d + 19)) 196 t 15 [some (.ref x), some (.ref (ad 0)), some (.int (sumI (fun k => if gonB s k = true then Int32.ofNat 0 else s 0 - bx s k 1) nb)), some (.int (Int32.ofNat (cnt (fun k => !gonB s k) nb))), some (.int (oI (ndF s h nb))), some (.ref (lq)), some (.int (Int32.ofNat k)), none, none, none] [.ref lq] m') := by
      intro t
      rw [q196_14, f_nl G'.w, bd_s, hl2, if_pos (by rw [nLt (by omega) (by omega)]; exact hk)]
    by_cases q : 0 < k
    · obtain ⟨m2, g2, X2, o2⟩ := x392 (e := e) (d := d + 13) Z (str 33 (by omega)) (by decide) (by decide) (by rw [gm]; show _ + 1 ≤ 286; omega) (by omega)
      refine ⟨e.2 33, m2, fun t => ⟨t + 1, by omega, by rw [st, if_pos (by rw [nLt (by omega) (by omega)]; exact q)]⟩, g2, by rw [if_pos q]; exact X2, o2, ?_⟩
      rw [if_pos q, List.length_append]
      show _ + 1 ≤ _
      omega
    · obtain ⟨m2, g2, X2, o2⟩ := x392 (e := e) (d := d + 13) Z (str 34 (by omega)) (by decide) (by decide) (by rw [gm]; show _ + 0 ≤ 286; omega) (by omega)
      have e0 : lstK s h k ++ wd 34 = lstK s h k := List.append_nil _
      rw [e0] at X2
      refine ⟨e.2 34, m2, fun t => ⟨t, Nat.le_refl _, by rw [st, if_neg (by rw [nLt (by omega) (by omega)]; exact q), q196_15]⟩, g2, by rw [if_neg q]; exact X2, o2, ?_⟩
      rw [if_neg q]
      omega
  have F2 : ∀ q, (bL lq m1.2.1).1 q → m2.1 q = m1.1 q := fun q hq => (o2 q hq).trans (F q hq)
  have h2 := (dN_mono _ _ _ _ _ _ g2).1
  have G2 := mk X2 F2 (by omega)
  have lb := dl2 (v := b) (by omega)
  obtain ⟨m3, g3, X3, o3⟩ := x368 (e := e) (d := d + 14) (x := x) X2 (v := b) (by omega) (by omega) G2.dg (by omega) (by omega)
  have F3 : ∀ q, (bL lq m1.2.1).1 q → m3.1 q = m1.1 q := fun q hq => (o3 q hq).trans (F2 q hq)
  have h3 := (dN_mono _ _ _ _ _ _ g3).1
  obtain ⟨m4, g4, X4, o4⟩ := x367 (e := e) (d := d + 14) X3 (by rw [List.length_append]; omega) (v := 58) (by omega) (by omega)
  have F4 : ∀ q, (bL lq m1.2.1).1 q → m4.1 q = m1.1 q := fun q hq => (o4 q hq).trans (F3 q hq)
  have h4 := (dN_mono _ _ _ _ _ _ g4).1
  have G4 := mk X4 F4 (by omega)
  obtain ⟨m5, g5, X5, o5⟩ := x368 (e := e) (d := d + 14) (x := x) X4 (v := nN (dueS s h b)) (by simp only [List.length_append, List.length_cons, List.length_nil]; omega) dv.2 G4.dg (by omega) (by omega)
  have F5 : ∀ q, (bL lq m1.2.1).1 q → m5.1 q = m1.1 q := fun q hq => (o5 q hq).trans (F4 q hq)
  have h5 := (dN_mono _ _ _ _ _ _ g5).1
  refine ⟨m5, ?_, F5, by omega, fun t => ?_⟩
  · have el : lstK s h (k + 1) = (((if 0 < k then lstK s h k ++ [32] else lstK s h k) ++ dig b) ++ [58]) ++ dig (nN (dueS s h b)) := by
      show (((if 0 < k then lstK s h k ++ [32] else lstK s h k) ++ dig (nN (s (3 + k)))) ++ [58]) ++ dig (nN (dueS s h (nN (s (3 + k))))) = _
      rw [nb3]
    rw [el]
    exact X5
  · obtain ⟨t1, a1, e1⟩ := c1 (t + 1)
    obtain ⟨u, rfl⟩ : ∃ u, t1 = u + 1 := ⟨t1 - 1, by omega⟩
    refine ⟨u, by omega, ?_⟩
    have gl := f_lst G2.w hk (by omega)
    have gl4 := f_lst G4.w hk (by omega)
    rw [e3] at gl gl4
    have vd := v_due (e := e) (d := d + 18) G4.w (k := b) hbn
    rw [dv.1] at vd
    rw [e1, q196_16, g2, kR_r, f_rlst G2.w, bd_s, gl, bd_s, g3, kR_r, g4, kR_r, f_rbxs G4.w, bd_s, f_rlst G4.w, bd_s, gl4, bd_s, f_box G4.w hbn (by omega), bd_s, vd, kI_r, g5, kR_r, nAdd]
theorem g_boxes (I : GE e x0 x b0 l0 N f w h C SS a Y s m) (Q : QR h S P K R) (hY : Y + 100 ≤ 1000000) : ∃ m', dN e (d + 20) 196 [.ref x, .ref w] m = rI (bI true) m' ∧ GE e x0 x b0 l0 N f w h (C + 400) (SS + 31000) a Y s m' := by
  obtain ⟨bb, l, nb, ad, yr, G, hw, hyr, y0, yY⟩ := I
  subst hw
  have nn := Q.nn
  have qe := Q.e
  have hns := G.w.nbs
  have pr := G.t.pr
  have hex := G.he
  obtain ⟨Ws, H⟩ := G.w.ws
  have hl24 : nlS s ≤ 24 := Ws.2.1.2.2
  have hl2 : s 2 = Int32.ofNat (nlS s) := Ws.2.1.1
  obtain ⟨m0, g0, X0, o0, s0⟩ := x366 (e := e) (d := d + 17) (m := m) (by omega)
  have G0 := G.mak o0 (fG.of s0)
  have e01 : m0.2.1 = m.2.1 + 2 := by rw [s0]
  have had : ∀ i, i < 7 + 2 * nb → ad i < m.2.1 := fun i hi => pr.2.2.1 _ (G.2.2.2.2.2.2.2.1 i hi).1
  obtain ⟨lq, hlq⟩ : ∃ lq, lq = m.2.1 := ⟨_, rfl⟩
  rw [← hlq] at had e01 X0 g0
  have I0 : BXS e x0 x b0 l0 N f a nb Y ad h s lq m0 (C + 2 + 15 * 0) (SS + 20 + 1258 * 0) m0 := ⟨_, l, G0, Or.inr ⟨by omega, by omega⟩, Or.inr ⟨by omega, by omega⟩, fun _ _ _ => rfl, by omega⟩
  obtain ⟨m1, I1, r1⟩ := lp_exC (α := dMem) (c := 40) (n := nb) (P := fun i m => BXS e x0 x b0 l0 N f a nb Y ad h s lq m0 (C + 2 + 15 * i) (SS + 20 + 1258 * i) m) (G := fun t k m => runL e (dN e (d + 19)) 196 t 1 [some (.ref x), some (.ref (ad 0)), some (.int (sumI (fun k => if gonB s k = true then Int32.ofNat 0 else s 0 - bx s k 1) k)), some (.int (Int32.ofNat (cnt (fun k => !gonB s k) k))), some (.int (oI (ndF s h k))), some (.ref (lq)), some (.int (Int32.ofNat k)), none, none, none] [] m) (fun i m hi I => by
    obtain ⟨m', I', r⟩ := b_step (d := d) I Q hi
    exact ⟨m', I'.le (by omega) (by omega), r⟩) nb 0 m0 (by omega) I0
  obtain ⟨bb1, l1, G1, hb1, hb2, hF, hlm⟩ := I1
  have XL : hX lq (bL lq m1.2.1) (m1.2.1 + 4) (m1.2.2 + 532) [] m1 := by
    have := X0.re rfl (m1 := m1) (fun q h1 h2 => hF q h1 (by omega)) (by omega)
    rw [e01] at this
    exact this
  obtain ⟨m2, ⟨X2, F2, hm2⟩, r2⟩ := lp_exC (α := dMem) (c := 3) (n := nlS s) (P := fun k m' => hX lq (bL lq m1.2.1) (m1.2.1 + 4) (m1.2.2 + 532) (lstK s h k) m' ∧ (∀ q, (bL lq m1.2.1).1 q → m'.1 q = m1.1 q) ∧ m1.2.1 ≤ m'.2.1) (G := fun t k m => runL e (dN e (d + 19)) 196 t 14 [some (.ref x), some (.ref (ad 0)), some (.int (sumI (fun k => if gonB s k = true then Int32.ofNat 0 else s 0 - bx s k 1) nb)), some (.int (Int32.ofNat (cnt (fun k => !gonB s k) nb))), some (.int (oI (ndF s h nb))), some (.ref (lq)), some (.int (Int32.ofNat k)), none, none, none] [] m) (fun k m' hk hP => by
    obtain ⟨Z, F, hm⟩ := hP
    obtain ⟨m2, z1, z2, z3, z4⟩ := ls_step (d := d) hY G1 hb1 hb2 (by omega) had hlm hk Z F hm
    exact ⟨m2, ⟨z1, z2, z3⟩, z4⟩) (nlS s) 0 m1 (by omega) ⟨XL, fun _ _ => rfl, Nat.le_refl _⟩
  have G2 := ls_G G1 hb1 hb2 (by omega) had X2 F2 hm2
  obtain ⟨R', I', H', S', Ar, n, c, Kc, -, hl, KA⟩ := G2.c
  obtain ⟨m3, g3, Z3, F3⟩ := a137_0 (e := e) (d := d + 11) hY G2.he Kc.1 (Kc.2.2.2.2 0 (by omega)) hl KA G2.dg G2.t
  have lln := lstK_len (q := nlS s) hY Ws H (Nat.le_refl _)
  have lS : (lstS s h).length ≤ 280 := by
    unfold lstS
    split
    · decide
    · omega
  have G3 := G2.txt Z3 lS F3
  have hbb : ∀ q, lq ≤ q → ¬ (bL lq m1.2.1).1 q → q < m2.2.1 → m3.1 q = m2.1 q := by
    intro q h1 h2 h3
    refine F3 q ?_
    by_cases z : q < lq + 2
    · have : q = lq ∨ q = lq + 1 := by omega
      rcases this with y | y <;> subst y
      · exact Or.inl hb1
      · exact Or.inl hb2
    · by_cases z2 : q < m1.2.1
      · exact absurd ⟨z2, fun y => z y.2⟩ h2
      · exact Or.inr ⟨by omega, h3⟩
  obtain ⟨p4, L4, w4, T4, a4, c4⟩ := X2.cs4 hbb
  have g4 := n370 (e := e) (d := d + 17) T4
  have tx : ∃ c, hCS c (lstS s h) m3 ∧ (∀ t, ∃ t', t ≤ t' ∧ (if Int32.ofNat 0 < Int32.ofNat (lstK s h (nlS s)).length then runL e (dN e (d + 19)) 196 (t + 1) 21 [none, none, none, none, none, none, none, none, none, none] [.ref lq, .int (Int32.ofNat (lstS s h).length), .ref x] m3 else runL e (dN e (d + 19)) 196 (t + 1) 20 [none, none, none, none, none, none, none, none, none, none] [.int (Int32.ofNat (lstS s h).length), .ref x] m3) = runL e (dN e (d + 19)) 196 t' 21 [none, none, none, none, none, none, none, none, none, none] [.ref c, .int (Int32.ofNat (lstS s h).length), .ref x] m3) := by
    by_cases z : nlS s = 0
    · refine ⟨e.2 35, Or.inr ⟨⟨x0, ?_⟩, by omega, ?_⟩, fun t => ⟨t, Nat.le_refl _, ?_⟩⟩
      · have : lstS s h = wd 35 := by unfold lstS; rw [if_pos z]; rfl
        rw [this]
        exact G3.2.2.2.2.2.1 35 (by omega)
      · unfold lstS
        rw [if_pos z]
        decide
      · have e0 : (lstK s h (nlS s)).length = 0 := by rw [z]; rfl
        rw [e0, if_neg (by decide +kernel), q196_20]
    · have eS : lstS s h = lstK s h (nlS s) := by unfold lstS; rw [if_neg z]
      refine ⟨lq, Or.inl ⟨p4, L4, w4, by rw [eS]; exact T4, by rw [eS]; exact a4, by rw [eS]; exact c4⟩, fun t => ⟨t + 1, by omega, ?_⟩⟩
      rw [if_pos (by rw [nLt (by omega) (by omega)]; exact lln.2 (by omega))]
  obtain ⟨c5, T5, r5⟩ := tx
  have g5 := g_isText (d := d + 12) G3 T5
  have G5 := G3.th
  refine ⟨mTh m3, ?_, ⟨_, _, nb, ad, yr, G5.le (by omega) (by omega), rfl, hyr, y0, yY⟩⟩
  refine en196 fun t ht => ?_
  obtain ⟨u, rfl⟩ : ∃ u, t = u + 3000 + 1 := ⟨t - 3001, by omega⟩
  have s1 : runL e (dN e (d + 19)) 196 (u + 3000 + 1) 0 [some (.ref x), some (.ref (ad 0)), none, none, none, none, none, none, none, none] [] m = runL e (dN e (d + 19)) 196 (u + 3000) 1 [some (.ref x), some (.ref (ad 0)), some (.int (sumI (fun k => if gonB s k = true then Int32.ofNat 0 else s 0 - bx s k 1) 0)), some (.int (Int32.ofNat (cnt (fun k => !gonB s k) 0))), some (.int (oI (ndF s h 0))), some (.ref (lq)), some (.int (Int32.ofNat 0)), none, none, none] [] m0 := by
    rw [q196_0, ← hlq, g0, kV_r]
    rfl
  obtain ⟨t1, a1, b1⟩ := r1 (u + 3000) (by omega)
  obtain ⟨v1, rfl⟩ : ∃ v, t1 = v + 500 + 2 := ⟨t1 - 502, by omega⟩
  have s2 : runL e (dN e (d + 19)) 196 (v1 + 500 + 2) 1 [some (.ref x), some (.ref (ad 0)), some (.int (sumI (fun k => if gonB s k = true then Int32.ofNat 0 else s 0 - bx s k 1) nb)), some (.int (Int32.ofNat (cnt (fun k => !gonB s k) nb))), some (.int (oI (ndF s h nb))), some (.ref (lq)), some (.int (Int32.ofNat nb)), none, none, none] [] m1 = runL e (dN e (d + 19)) 196 (v1 + 500) 14 [some (.ref x), some (.ref (ad 0)), some (.int (sumI (fun k => if gonB s k = true then Int32.ofNat 0 else s 0 - bx s k 1) nb)), some (.int (Int32.ofNat (cnt (fun k => !gonB s k) nb))), some (.int (oI (ndF s h nb))), some (.ref (lq)), some (.int (Int32.ofNat 0)), none, none, none] [] m1 := by
    rw [q196_1, f_nb G1.w, bd_s, if_neg (by rw [nLt (by omega) (by omega)]; omega), q196_13]
  obtain ⟨t2, a2, b2⟩ := r2 (v1 + 500) (by omega)
  obtain ⟨v2, rfl⟩ : ∃ v, t2 = v + 10 := ⟨t2 - 10, by omega⟩
  have ek : cnt (fun k => !gonB s k) nb = kepN s := by unfold kepN; rw [hns.1]
  have ea : sumI (fun k => if gonB s k = true then Int32.ofNat 0 else s 0 - bx s k 1) nb = agesS s := by unfold agesS; rw [hns.1]
  have s3 : ∃ t', 6 ≤ t' ∧ runL e (dN e (d + 19)) 196 (v2 + 10) 14 [some (.ref x), some (.ref (ad 0)), some (.int (sumI (fun k => if gonB s k = true then Int32.ofNat 0 else s 0 - bx s k 1) nb)), some (.int (Int32.ofNat (cnt (fun k => !gonB s k) nb))), some (.int (oI (ndF s h nb))), some (.ref (lq)), some (.int (Int32.ofNat (nlS s))), none, none, none] [] m2 = runL e (dN e (d + 19)) 196 t' 19 [some (.ref x), none, none, none, some (.int (oI (ndF s h nb))), some (.ref (lq)), none, none, none, none] [.double (meanS s)] m2 := by
    have k0 : runL e (dN e (d + 19)) 196 (v2 + 10) 14 [some (.ref x), some (.ref (ad 0)), some (.int (sumI (fun k => if gonB s k = true then Int32.ofNat 0 else s 0 - bx s k 1) nb)), some (.int (Int32.ofNat (cnt (fun k => !gonB s k) nb))), some (.int (oI (ndF s h nb))), some (.ref (lq)), some (.int (Int32.ofNat (nlS s))), none, none, none] [] m2 = runL e (dN e (d + 19)) 196 (v2 + 9) 17 [some (.ref x), none, some (.int (sumI (fun k => if gonB s k = true then Int32.ofNat 0 else s 0 - bx s k 1) nb)), some (.int (Int32.ofNat (cnt (fun k => !gonB s k) nb))), some (.int (oI (ndF s h nb))), some (.ref (lq)), none, none, none, none] [] m2 := by
      rw [q196_14, f_nl G2.w, bd_s, hl2, if_neg (by rw [nLt (by omega) (by omega)]; omega)]
    have hkn : kepN s ≤ 24 := by have := cnt_le (fun k => !gonB s k) nb; omega
    by_cases q : kepN s = 0
    · refine ⟨v2 + 8, by omega, ?_⟩
      rw [k0, q196_17, ek, q, if_pos rfl]
      unfold meanS
      rw [if_pos q]
    · refine ⟨v2 + 7, by omega, ?_⟩
      rw [k0, q196_17, ek, if_neg (by rw [nEq (by omega) (by omega)]; exact q), q196_18, ea, if_pos (avg_d (o_ne (by omega) q))]
      unfold meanS
      rw [if_neg q]
  obtain ⟨t3, a3, b3⟩ := s3
  obtain ⟨v3, rfl⟩ : ∃ v, t3 = v + 3 + 1 + 1 := ⟨t3 - 5, by omega⟩
  have enf : oI (ndF s h (nbS s)) = oI (ndF s h nb) := by rw [hns.1]
  obtain ⟨t5, a5, b5⟩ := r5 (v3 + 3)
  obtain ⟨v5, rfl⟩ : ∃ v, t5 = v + 2 := ⟨t5 - 2, by omega⟩
  rw [s1, b1, s2, b2, b3, q196_19, cq134 G2.c, kD_r, if_pos mean_n, cq132 G2.c, kI_r, if_pos enf, g3, kI_r, g4, kI_r, b5, q196_21, g5, kI_r, if_neg (by decide +kernel), q196_23, rZ_1]
end
end

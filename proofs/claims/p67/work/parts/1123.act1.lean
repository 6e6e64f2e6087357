/-! ===== an act: what the World does, the object does (printed by wip/p67/lw4.py) ===== -/
noncomputable section
theorem obs_v (s h : sV) (r : Int32) (k : Nat) : ∃ v, obsS s h r k = Int32.ofNat v ∧ v ≤ 5 := by
  unfold obsS
  repeat' split
  all_goals first | exact ⟨0, rfl, by omega⟩ | exact ⟨1, rfl, by omega⟩ | exact ⟨2, rfl, by omega⟩ | exact ⟨3, rfl, by omega⟩ | exact ⟨4, rfl, by omega⟩ | exact ⟨5, rfl, by omega⟩
theorem obs_p (s h : sV) (r : Int32) (k : Nat) : (Int32.ofNat 0 < obsS s h r k) = ¬ obsS s h r k = Int32.ofNat 0 := by
  obtain ⟨v, v1, v2⟩ := obs_v s h r k
  rw [v1, nLt (by omega) (by omega), nEq (by omega) (by omega)]
  exact propext ⟨fun q => by omega, fun q => by omega⟩
theorem fst_lt (s : sV) {h : sV} (hm : mkN h ≤ 48) : (fstS s h < Int32.ofNat 0) = (fstS s h = nM1) := by
  unfold fstS fI
  cases hq : fnd (mkN h) (frB s) with
  | none => show (nM1 < Int32.ofNat 0) = (nM1 = nM1); rw [nMLt (by omega)]; simp
  | some z =>
    have := (fnd_some hq).1
    show (Int32.ofNat z < Int32.ofNat 0) = (Int32.ofNat z = nM1)
    rw [nLt (by omega) (by omega), nEqM (by omega)]; simp
theorem hld_w {e : dEnv} {nb Y : Nat} {ad : Nat → Nat} {h s : sV} {m : dMem} (Z : WST e nb Y ad h s m) {k : Nat} (hk : k < nb) : (bx s k 5 < Int32.ofNat 0) = (bx s k 5 = nM1) := by
  have wb := Z.ws.1.2.2.2.1 k (by rw [Z.nbs.1]; exact hk)
  rcases wb.2.2.2.2.2.1 with q | ⟨q, -⟩
  · rw [q]
    rw [nMLt (by omega)]; simp
  · obtain ⟨v, v1, -, -, v4⟩ := q.ex
    rw [v1, nLt (by omega) (by omega), nEqM (by omega)]; simp
theorem lay_0 {s : sV} {k f yr : Nat} {x : Int32} (h : s 0 = Int32.ofNat yr) : lay s k f x 0 = Int32.ofNat yr := by rw [lay_lo (by omega)]; exact h
section
variable {e : dEnv} {d x0 x b0 l0 N a C SS nb Y S P K R yr wh b r v : Nat} {f : Nat → Int32} {bb : xB} {l : List Nat} {ad : Nat → Nat} {h s : sV} {m : dMem}
/-- years pass -/
theorem acA (G : GS e x0 x b0 l0 N f a bb C SS l nb Y ad h s Y s m) (hyr : s 0 = Int32.ofNat yr) (v1 : 1 ≤ v) (v2 : v ≤ 50) (hY : Y ≤ 5000) : ∃ m3 m' n, dN e (d + 19) 186 [.ref (ad 0), .int (Int32.ofNat v)] m = some (.inl none, m3) ∧ dN e (d + 19) 191 [.ref x, .int (Int32.ofNat 7), .int (Int32.ofNat 0), .int (Int32.ofNat 0)] m3 = rI (Int32.ofNat 3) (mTh m3) ∧ dN e (d + 19) 191 [.ref x, .int (Int32.ofNat 7), .int (Int32.ofNat 51), .int (Int32.ofNat 0)] (mTh m3) = rI (Int32.ofNat 3) (mTh (mTh m3)) ∧ dN e (d + 19) 139 [.ref x, .int (Int32.ofNat v)] (mTh (mTh m3)) = rI n m' ∧ dN e (d + 19) 181 [.ref (ad 0)] m' = rI n m' ∧ GS e x0 x b0 l0 N f a bb (C + 2) (SS + 12) l nb (Y + v) ad h (yrsS h v s) (Y + v) (yrsS h v s) m' ∧ yrsS h v s 0 = Int32.ofNat (yr + v) := by
  obtain ⟨m3, g3, W3, F3⟩ := v_years (e := e) (d := d + 16) G.w (n := v) (by omega) (by omega)
  have G3 := G.wd W3 F3
  have t1 := tt_7 (d := d) G3.c (y := Int32.ofNat 0) (z := Int32.ofNat 0) (rngB_f (Or.inl (by rw [nToI (by omega)]; omega)))
  have G4 := G3.th
  have t2 := tt_7 (d := d) G4.c (y := Int32.ofNat 51) (z := Int32.ofNat 0) (rngB_f (Or.inr (by rw [nToI (by omega)]; omega)))
  have G5 := G4.th
  obtain ⟨m6, g6, K6, F6⟩ := c139 (d := d) G5.he G5.c v1 v2 (by omega)
  have G6 := G5.chg F6 K6
  exact ⟨m3, m6, _, g3, t1, t2, g6, v_lent (d := d + 18) G6.w, G6.le (by omega) (by omega), yrs_0 hyr v⟩
/-- a box comes, if there is room -/
theorem acB (G : GS e x0 x b0 l0 N f a bb C SS l nb Y ad h s Y s m) (Q : QR h S P K R) (hyr : s 0 = Int32.ofNat yr) (y0 : 1900 ≤ yr) (yY : yr ≤ Y) (hY : Y ≤ 5000) (ha : a ≤ 900000) : ∃ m' s' a' bb' nb' ad', (∀ t, runL e (dN e (d + 19)) 194 (t + 10) 6 [some (.ref x), some (.ref (ad 0)), some (.ref b0), none, none, none, none, none, none, none, none] [] m = rI (bI true) m') ∧ GS e x0 x b0 l0 N f a' bb' (C + 10) (SS + 100) l nb' Y ad' h s' Y s' m' ∧ ad' 0 = ad 0 ∧ a' ≤ a + 4 ∧ s' 0 = Int32.ofNat yr := by
  have nn := Q.nn
  have qe := Q.e
  obtain ⟨T, s1, s2, p1, p2, k1, k2, r1, r2⟩ := Q
  obtain ⟨Ws, H⟩ := G.w.ws
  have hns := G.w.nbs
  have yN : nN (s 0) = yr := by rw [hyr]; exact nN_o (by omega)
  obtain ⟨k, m1, g1, -, kk, G1⟩ := g_draw (d := d + 18) G (lo := 0) (hi := K - 1) (by omega) (by omega) (by omega)
  obtain ⟨z, m2, g2, -, zz, G2⟩ := g_draw (d := d + 18) G1 (lo := 0) (hi := 40) (by omega) (by omega) (by omega)
  have fr := v_free (e := e) (d := d + 17) G2.w
  have c0 : ∀ t, runL e (dN e (d + 19)) 194 (t + 10) 6 [some (.ref x), some (.ref (ad 0)), some (.ref b0), none, none, none, none, none, none, none, none] [] m = (if fstS s h < Int32.ofNat 0 then runL e (dN e (d + 19)) 194 (t + 9) 7 [some (.ref x), none, none, none, none, none, none, some (.int (Int32.ofNat k)), some (.int (Int32.ofNat (yr - z))), none, none] [] m2 else (if Int32.ofNat nb = Int32.ofNat 24 then runL e (dN e (d + 19)) 194 (t + 9) 7 [some (.ref x), none, none, none, none, none, none, some (.int (Int32.ofNat k)), some (.int (Int32.ofNat (yr - z))), none, none] [] m2 else runL e (dN e (d + 19)) 194 (t + 9) 10 [some (.ref x), some (.ref (ad 0)), none, none, none, none, none, some (.int (Int32.ofNat k)), some (.int (Int32.ofNat (yr - z))), some (.int (fstS s h)), none] [] m2)) := by
    intro t
    rw [q194_6, f_K G.w, bd_s, qe.2.2.1, nSub (by omega), g1, kI_r, f_yr G1.w, bd_s, hyr, g2, kI_r, fr, kI_r, nSub (by omega), f_nb G2.w, bd_s]
  by_cases full : fstS s h = nM1 ∨ nb = 24
  · have t8 := tt_8b (d := d) (z := Int32.ofNat 0) G2.c (i := k) (y := yr - z) (by omega) (by omega) (by omega) (by omega) (by omega) (by
      rw [hns.1]
      rcases full with q | q
      · rw [q, decide_eq_true rfl, Bool.not_true, Bool.and_false]
      · rw [q, decide_eq_false (by omega), Bool.false_and])
    refine ⟨_, s, _, _, nb, ad, fun t => ?_, G2.th.le (by omega) (by omega), rfl, by omega, hyr⟩
    have c1 : runL e (dN e (d + 19)) 194 (t + 9) 7 [some (.ref x), none, none, none, none, none, none, some (.int (Int32.ofNat k)), some (.int (Int32.ofNat (yr - z))), none, none] [] m2 = rI (bI true) (mTh m2) := by
      rw [q194_7, t8, kI_r, if_pos rfl, q194_9, rZ_1]
    rw [c0, c1]
    rcases full with q | q
    · rw [if_pos (by rw [fst_lt s (by omega)]; exact q)]
    · rw [q, if_pos (c := Int32.ofNat 24 = Int32.ofNat 24) rfl]
      split <;> rfl
  · have nf : fstS s h ≠ nM1 := fun q => full (Or.inl q)
    have n24 : nb ≠ 24 := fun q => full (Or.inr q)
    obtain ⟨q, q1, q2, q3⟩ : ∃ q, fstS s h = Int32.ofNat q ∧ q < mkN h ∧ boxOnS s (Int32.ofNat q) = nM1 := by
      unfold fstS fI at nf ⊢
      cases hf : fnd (mkN h) (frB s) with
      | none => rw [hf] at nf; exact absurd rfl nf
      | some q =>
        obtain ⟨h1, h2, -⟩ := fnd_some hf
        exact ⟨q, rfl, h1, of_decide_eq_true h2⟩
    have qq : q / P * P + q % P = q := by rw [Nat.mul_comm]; exact Nat.div_add_mod q P
    have hqi : q / P < S := Nat.div_lt_of_lt_mul (by rw [Nat.mul_comm, ← nn.2.2.2.2.1]; exact q2)
    have hqj : q % P < P := Nat.mod_lt _ (by omega)
    obtain ⟨m3, g3, W3, F3⟩ := v_adds (e := e) (d := d + 17) G2.w (by omega) (by omega) (c := k) (y := yr - z) (i := q / P) (j := q % P) (by omega) (by omega) (by omega) (by omega) (by omega) (by omega) (by rw [nn.2.1, qq]; exact q3)
    rw [nn.2.1, qq] at W3
    obtain ⟨bb', G3⟩ := G2.add (by omega) W3 F3
    have x3 : xAd ad nb m2.2.1 0 = ad 0 := xAd_o (by omega)
    have n0' : newS s (Int32.ofNat k) (Int32.ofNat (yr - z)) (Int32.ofNat q) 0 = Int32.ofNat yr := by rw [new_lo (by omega) (by omega)]; exact hyr
    have sI : (s 0).toInt = (yr : Int) := by rw [hyr]; exact nToI (by omega)
    have t1 := tt_8 (d := d) G3.c (i := k) (y := Int32.ofNat (yr + 1)) (by omega) (by omega) (rngB_f (Or.inr (by rw [sI, nToI (by omega)]; omega)))
    have G4 := G3.th
    have t2 := tt_8k (d := d) G4.c (y := Int32.ofNat K) (z := Int32.ofNat (yr - z)) (by omega) (rngB_f (Or.inr (by rw [nToI (by omega)]; omega)))
    have G5 := G4.th
    obtain ⟨m6, g6, K6, F6⟩ := c140 (d := d) G5.he G5.c (i := k) (y := yr - z) (q := q) (by omega) (by omega) (by omega) (by omega) (by omega) (by omega) q1 q2 (by omega)
    have G6 := G5.chg F6 K6
    refine ⟨m6, _, _, bb', nb + 1, _, fun t => ?_, G6.le (by omega) (by omega), x3, by omega, n0'⟩
    have hP0 : ¬ Int32.ofNat P = Int32.ofNat 0 := by rw [nEq (by omega) (by omega)]; omega
    have fyr := f_yr G3.w
    have fK := f_K G4.w
    have fnb := f_nb G6.w
    rw [x3] at fyr fK fnb
    rw [n0'] at fyr
    rw [qe.2.2.1] at fK
    rw [c0, if_neg (by rw [fst_lt s (by omega)]; exact nf), if_neg (by rw [nEq (by omega) (by omega)]; exact n24), q1, q194_10, f_P G2.w, bd_s, qe.2.1, if_neg hP0, bd_s, if_neg hP0, nMod (by omega) (by omega), nDiv (by omega) (by omega), g3, kV_r, fyr, bd_s, nAdd, t1, kI_r, if_pos rfl, fK, bd_s, t2, kI_r, if_pos rfl, g6, kI_r, fnb, bd_s, nSub (by omega), if_pos (by rw [hns.1, Nat.add_sub_cancel]), q194_12, rZ_1]
/-- a box is moved -/
theorem acC (G : GS e x0 x b0 l0 N f a bb C SS l nb Y ad h s Y s m) (Q : QR h S P K R) (hyr : s 0 = Int32.ofNat yr) (hb : b < nb) (ha : a ≤ 900000) : ∃ m' s' a' bb' nb' ad', (∀ t, runL e (dN e (d + 19)) 194 (t + 10) 13 [some (.ref x), some (.ref (ad 0)), some (.ref b0), some (.int (Int32.ofNat 6)), some (.int (Int32.ofNat b)), some (.int (Int32.ofNat r)), some (.int (Int32.ofNat v)), none, none, none, none] [] m = rI (bI true) m') ∧ GS e x0 x b0 l0 N f a' bb' (C + 10) (SS + 100) l nb' Y ad' h s' Y s' m' ∧ ad' 0 = ad 0 ∧ a' ≤ a + 4 ∧ s' 0 = Int32.ofNat yr := by
  have nn := Q.nn
  have qe := Q.e
  obtain ⟨T, s1, s2, p1, p2, k1, k2, r1, r2⟩ := Q
  have hns := G.w.nbs
  obtain ⟨i, m1, g1, -, ii, G1⟩ := g_draw (d := d + 18) G (lo := 0) (hi := S - 1) (by omega) (by omega) (by omega)
  obtain ⟨j, m2, g2, -, jj, G2⟩ := g_draw (d := d + 18) G1 (lo := 0) (hi := P - 1) (by omega) (by omega) (by omega)
  obtain ⟨u, u2, e5, e6, hu⟩ := f_b56 G2.w hb
  have hat := v_at (e := e) (d := d + 18) G2.w (i := i) (j := j) (by omega) (by omega)
  rw [nn.2.1] at hat
  have c0 : ∀ t, runL e (dN e (d + 19)) 194 (t + 10) 13 [some (.ref x), some (.ref (ad 0)), some (.ref b0), some (.int (Int32.ofNat 6)), some (.int (Int32.ofNat b)), some (.int (Int32.ofNat r)), some (.int (Int32.ofNat v)), none, none, none, none] [] m = (if bI (gonB s b) = Int32.ofNat 0 then (if boxOnS s (Int32.ofNat (i * P + j)) < Int32.ofNat 0 then runL e (dN e (d + 19)) 194 (t + 9) 17 [some (.ref x), some (.ref (ad 0)), none, none, some (.int (Int32.ofNat b)), none, none, some (.ref (ad (7 + 2 * b))), some (.int (Int32.ofNat i)), some (.int (Int32.ofNat j)), some (.int (u * Int32.ofNat P + u2))] [] m2 else runL e (dN e (d + 19)) 194 (t + 9) 14 [some (.ref x), none, none, none, some (.int (Int32.ofNat b)), none, none, none, some (.int (Int32.ofNat i)), some (.int (Int32.ofNat j)), none] [] m2) else runL e (dN e (d + 19)) 194 (t + 9) 14 [some (.ref x), none, none, none, some (.int (Int32.ofNat b)), none, none, none, some (.int (Int32.ofNat i)), some (.int (Int32.ofNat j)), none] [] m2) := by
    intro t
    rw [q194_13, f_rbxs G.w, bd_s, f_box G.w hb (by omega), bd_s, if_pos rfl, f_S G.w, bd_s, qe.1, nSub (by omega), g1, kI_r, f_P G1.w, bd_s, qe.2.1, nSub (by omega), g2, kI_r, e5, bd_s, f_P G2.w, bd_s, qe.2.1, e6, bd_s, f_b10g G2.w hb, bd_s, hat, kI_r]
  cases hg : gonB s b with
  | true =>
    have t9 := tt_9g (d := d) G2.c (k := b) (i := i) (j := j) (by omega) (by omega) (by omega) hg
    refine ⟨_, s, _, _, nb, ad, fun t => ?_, G2.th.le (by omega) (by omega), rfl, by omega, hyr⟩
    rw [c0, hg, if_neg (by decide +kernel), q194_14, t9, kI_r, if_pos rfl, q194_16, rZ_1]
  | false =>
    by_cases ho : boxOnS s (Int32.ofNat (i * P + j)) = nM1
    · obtain ⟨i', j', i1, j1, rfl, rfl, hq⟩ := hu hg
      obtain ⟨m3, m4, g3, g4, W4, F4⟩ := v_move G2.w (k := b) (i := i) (j := j) hb hg (by omega) (by omega) (by rw [nn.2.1]; exact ho)
      have G4 := G2.wd W4 F4
      have t9 := tt_9s (d := d) G4.c (k := b) (y := Int32.ofNat S) (z := Int32.ofNat j) (by omega) (by rw [rngB_f (Or.inr (by rw [nToI (by omega)]; omega)), Bool.false_and])
      have G5 := G4.th
      obtain ⟨m6, g6, K6, F6⟩ := c141 (d := d) G5.he G5.c (k := b) (i := i) (j := j) (by omega) (by omega) (by omega) hg (by rw [nn.2.1]; exact ho)
      have G6 := G5.chg F6 K6
      refine ⟨m6, _, _, _, nb, ad, fun t => ?_, G6.le (by omega) (by omega), rfl, by omega, lay_0 hyr⟩
      rw [c0, hg, bI_f, if_pos rfl, if_pos (by rw [bo_lt (by omega)]; exact ho), q194_17, g3, bd_s, g4, bd_s, f_S G4.w, bd_s, qe.1, t9, kI_r, if_pos rfl, g6, kI_r, hq, nn.2.1, nMul, nAdd, if_pos rfl, q194_19, rZ_1]
    · have t9 := tt_9o (d := d) G2.c (k := b) (i := i) (j := j) (by omega) (by omega) (by omega) hg (by rw [nn.2.1]; exact ho)
      refine ⟨_, s, _, _, nb, ad, fun t => ?_, G2.th.le (by omega) (by omega), rfl, by omega, hyr⟩
      rw [c0, hg, bI_f, if_pos rfl, if_neg (by rw [bo_lt (by omega)]; exact ho), q194_14, t9, kI_r, if_pos rfl, q194_16, rZ_1]
/-- a box is sealed -/
theorem acD (G : GS e x0 x b0 l0 N f a bb C SS l nb Y ad h s Y s m) (hyr : s 0 = Int32.ofNat yr) (y0 : 1900 ≤ yr) (yY : yr ≤ Y) (hY : Y ≤ 5000) (hb : b < nb) (v1 : 1 ≤ v) (v2 : v ≤ 50) : ∃ m' s' a' bb' nb' ad', (∀ t, runL e (dN e (d + 19)) 194 (t + 10) 20 [some (.ref x), some (.ref (ad 0)), some (.ref b0), some (.int (Int32.ofNat 7)), some (.int (Int32.ofNat b)), some (.int (Int32.ofNat r)), some (.int (Int32.ofNat v)), some (.ref (ad (7 + 2 * b))), none, none, none] [] m = rI (bI true) m') ∧ GS e x0 x b0 l0 N f a' bb' (C + 10) (SS + 100) l nb' Y ad' h s' Y s' m' ∧ ad' 0 = ad 0 ∧ a' ≤ a + 4 ∧ s' 0 = Int32.ofNat yr := by
  obtain ⟨Ws, H⟩ := G.w.ws
  have hns := G.w.nbs
  have sI : (s 0).toInt = (yr : Int) := by rw [hyr]; exact nToI (by omega)
  cases hg : gonB s b with
  | true =>
    have t10 := tt_10g (d := d) G.c (k := b) (y := s 0) (by omega) (rngB_t (Int.le_refl _) (by rw [sI]; omega)) hg
    refine ⟨_, s, a, _, nb, ad, fun t => ?_, G.th.le (by omega) (by omega), rfl, by omega, hyr⟩
    rw [q194_20, if_pos rfl, f_b4 G.w hb, bd_s, f_b10g G.w hb, bd_s, hg, if_neg (by decide +kernel), f_yr G.w, bd_s, t10, kI_r, if_pos rfl, q194_22, rZ_1]
  | false =>
    obtain ⟨m1, g1, W1, F1⟩ := v_seal (k := b) (x := Int32.ofNat (yr + v - 1)) G.w hb hg
    have G1 := G.wd W1 F1
    have t1 := tt_10 (d := d) G1.c (k := b) (y := Int32.ofNat (yr - 1)) (by omega) (rngB_f (Or.inl (by rw [sI, nToI (by omega)]; omega)))
    have G2 := G1.th
    have t2 := tt_10 (d := d) G2.c (k := b) (y := Int32.ofNat 10000) (by omega) (rngB_f (Or.inr (by rw [nToI (by omega)]; omega)))
    have G3 := G2.th
    obtain ⟨m4, g4, K4, F4⟩ := c142 (d := d) G3.he G3.c (k := b) (y := Int32.ofNat (yr + v - 1)) (by omega) (rngB_t (by rw [sI, nToI (by omega)]; omega) (by rw [nToI (by omega)]; omega)) hg
    have G4 := G3.chg F4 K4
    refine ⟨m4, _, a, _, nb, ad, fun t => ?_, G4.le (by omega) (by omega), rfl, by omega, lay_0 hyr⟩
    have fs := f_b4 G3.w hb
    rw [lay_s (by omega)] at fs
    have fy := f_yr G1.w
    rw [lay_lo (by omega), hyr] at fy
    rw [q194_20, if_pos rfl, f_b4 G.w hb, bd_s, f_b10g G.w hb, bd_s, hg, bI_f, if_pos rfl, q194_23, f_yr G.w, bd_s, hyr, nAdd, nSub (by omega), g1, bd_s, fy, bd_s, nSub (by omega), t1, kI_r, if_pos rfl, t2, kI_r, if_pos rfl, fs, bd_s, g4, kI_r, if_pos rfl, q194_25, rZ_1]
/-- a box is asked for -/
theorem acE (G : GS e x0 x b0 l0 N f a bb C SS l nb Y ad h s Y s m) (Q : QR h S P K R) (hyr : s 0 = Int32.ofNat yr) (hb : b < nb) (hr : r < R) (hw : wh < 11) : ∃ m' s' a' bb' nb' ad', (∀ t, runL e (dN e (d + 19)) 194 (t + 10) 26 [some (.ref x), some (.ref (ad 0)), some (.ref b0), some (.int (Int32.ofNat wh)), some (.int (Int32.ofNat b)), some (.int (Int32.ofNat r)), none, some (.ref (ad (7 + 2 * b))), none, none, none] [] m = rI (bI true) m') ∧ GS e x0 x b0 l0 N f a' bb' (C + 10) (SS + 100) l nb' Y ad' h s' Y s' m' ∧ ad' 0 = ad 0 ∧ a' ≤ a + 4 ∧ s' 0 = Int32.ofNat yr := by
  have nn := Q.nn
  obtain ⟨T, s1, s2, p1, p2, k1, k2, r1, r2⟩ := Q
  have hns := G.w.nbs
  have hba := v_bar (e := e) (d := d + 17) G.w hb (x := Int32.ofNat r)
  by_cases ho : obsS s h (Int32.ofNat r) b = Int32.ofNat 0
  · have t1 := tt_12b (d := d) G.c (j := r) (y := Int32.ofNat nb) (by omega) (by omega) (rngB_f (Or.inr (by rw [nToI (by omega)]; omega)))
    have G1 := G.th
    obtain ⟨m2, g2, K2, F2⟩ := c143 (d := d) G1.he G1.c (j := r) (k := b) (by omega) (by omega) (by omega) ho
    have G2 := G1.chg F2 K2
    obtain ⟨m3, g3, W3, F3⟩ := v_requests (e := e) (d := d + 17) G2.w hb (r := r) (by omega) ho
    have G3 := G2.wd W3 F3
    refine ⟨m3, _, a, _, nb, ad, fun t => ?_, G3.le (by omega) (by omega), rfl, by omega, by rw [req_lo (by omega)]; exact hyr⟩
    rw [q194_26, if_pos (by rw [nLt (by omega) (by omega)]; exact hw), hba, kI_r, if_neg (by rw [obs_p]; exact fun q => q ho), q194_29, f_nb G.w, bd_s, t1, kI_r, if_pos rfl, g2, kI_r, g3, kI_r, if_pos rfl, q194_31, rZ_1]
  · have t1 := tt_12o (d := d) G.c (j := r) (k := b) (by omega) (by omega) (by omega) ho
    refine ⟨_, s, a, _, nb, ad, fun t => ?_, G.th.le (by omega) (by omega), rfl, by omega, hyr⟩
    rw [q194_26, if_pos (by rw [nLt (by omega) (by omega)]; exact hw), hba, kI_r, if_pos (by rw [obs_p]; exact ho), t1, kI_r, if_pos rfl, q194_28, rZ_1]
/-- a box is given back -/
theorem acF (G : GS e x0 x b0 l0 N f a bb C SS l nb Y ad h s Y s m) (hyr : s 0 = Int32.ofNat yr) (hb : b < nb) : ∃ m' s' a' bb' nb' ad', (∀ t, runL e (dN e (d + 19)) 194 (t + 10) 32 [some (.ref x), some (.ref (ad 0)), some (.ref b0), some (.int (Int32.ofNat 11)), some (.int (Int32.ofNat b)), none, none, some (.ref (ad (7 + 2 * b))), none, none, none] [] m = rI (bI true) m') ∧ GS e x0 x b0 l0 N f a' bb' (C + 10) (SS + 100) l nb' Y ad' h s' Y s' m' ∧ ad' 0 = ad 0 ∧ a' ≤ a + 4 ∧ s' 0 = Int32.ofNat yr := by
  have hns := G.w.nbs
  by_cases h5 : bx s b 5 = nM1
  · have t1 := tt_13 (d := d) G.c (k := b) (z := Int32.ofNat 0) (by omega) h5
    refine ⟨_, s, a, _, nb, ad, fun t => ?_, G.th.le (by omega) (by omega), rfl, by omega, hyr⟩
    rw [q194_32, if_pos rfl, f_b7 G.w hb, bd_s, if_pos (by rw [hld_w G.w hb]; exact h5), t1, kI_r, if_pos rfl, q194_34, rZ_1]
  · obtain ⟨m1, g1, W1, F1⟩ := v_back G.w hb
    have G1 := G.wd W1 F1
    obtain ⟨m2, g2, W2, F2⟩ := v_serves (e := e) (d := d + 17) G1.w hb
    have G2 := G1.wd W2 F2
    obtain ⟨m3, g3, K3, F3⟩ := c144 (d := d) G2.he G2.c (k := b) (by omega) h5
    have G3 := G2.chg F3 K3
    refine ⟨m3, gbkS s h b, a, _, nb, ad, fun t => ?_, G3.le (by omega) (by omega), rfl, by omega, ?_⟩
    · have f7 := f_b7 G3.w hb
      rw [q194_32, if_pos rfl, f_b7 G.w hb, bd_s, if_neg (by rw [hld_w G.w hb]; exact h5), q194_35, g1, bd_s, g2, kV_r, g3, kI_r, f7, bd_s]
      show (if bx (gbkS s h b) b 5 = bx (gbkS s h b) b 5 then _ else _) = _
      rw [if_pos rfl, q194_37, rZ_1]
    · show srvS (lay s b 5 nM1) h b 0 = _
      rw [srv_lo (by omega)]
      exact lay_0 hyr
/-- a list is made -/
theorem acG (G : GS e x0 x b0 l0 N f a bb C SS l nb Y ad h s Y s m) (hyr : s 0 = Int32.ofNat yr) (hw1 : ¬ wh = 11) (hw : wh < 14) : ∃ m' s' a' bb' nb' ad', (∀ t, runL e (dN e (d + 19)) 194 (t + 10) 32 [some (.ref x), some (.ref (ad 0)), some (.ref b0), some (.int (Int32.ofNat wh)), some (.int (Int32.ofNat b)), none, none, some (.ref (ad (7 + 2 * b))), none, none, none] [] m = rI (bI true) m') ∧ GS e x0 x b0 l0 N f a' bb' (C + 10) (SS + 100) l nb' Y ad' h s' Y s' m' ∧ ad' 0 = ad 0 ∧ a' ≤ a + 4 ∧ s' 0 = Int32.ofNat yr := by
  obtain ⟨m1, g1, W1, F1⟩ := v_lists (e := e) (d := d + 16) G.w
  have G1 := G.wd W1 F1
  obtain ⟨m2, g2, K2, F2⟩ := c145 (d := d) G1.he G1.c
  have G2 := G1.chg F2 K2
  refine ⟨m2, listsS s h, a, _, nb, ad, fun t => ?_, G2.le (by omega) (by omega), rfl, by omega, by rw [lists_0 G.w.ws.1]; exact hyr⟩
  rw [q194_32, if_neg (by rw [nEq (by omega) (by omega)]; exact hw1), q194_38, if_pos (by rw [nLt (by omega) (by omega)]; exact hw), g1, kV_r, g2, kI_r, f_nl G2.w, bd_s, if_pos rfl, q194_40, rZ_1]
/-- a box is struck -/
theorem acH (G : GS e x0 x b0 l0 N f a bb C SS l nb Y ad h s Y s m) (hyr : s 0 = Int32.ofNat yr) (hb : b < nb) (hY : Y ≤ 5000) (ha : a ≤ 900000) : ∃ m' s' a' bb' nb' ad', (∀ t, runL e (dN e (d + 19)) 194 (t + 60) 41 [some (.ref x), some (.ref (ad 0)), some (.ref b0), some (.int (Int32.ofNat 14)), some (.int (Int32.ofNat b)), none, none, some (.ref (ad (7 + 2 * b))), none, none, none] [] m = rI (bI true) m') ∧ GS e x0 x b0 l0 N f a' bb' (C + 10) (SS + 100) l nb' Y ad' h s' Y s' m' ∧ ad' 0 = ad 0 ∧ a' ≤ a + 4 ∧ s' 0 = Int32.ofNat yr := by
  have hns := G.w.nbs
  have hl24 : nlS s ≤ 24 := G.w.ws.1.2.1.2.2
  have vl := v_listed (e := e) (d := d + 18) G.w (x := Int32.ofNat b)
  obtain ⟨y, m1, g1, y1, y2, G1⟩ := g_draw (d := d + 18) G (lo := 1) (hi := 20) (by omega) (by omega) (by omega)
  cases hf : fnd (nlS s) (fun i => decide (s (3 + i) = Int32.ofNat b)) with
  | none =>
    have t1 := tt_14b (d := d) G1.c (k := b) (y := y) (by omega) y1 y2 hf
    refine ⟨_, s, _, _, nb, ad, fun t => ?_, G1.th.le (by omega) (by omega), rfl, by omega, hyr⟩
    have vl' : dN e (d + 19) 178 [.ref (ad 0), .int (Int32.ofNat b)] m = rI nM1 m := by
      rw [vl]
      unfold fI
      rw [hf]
      rfl
    rw [q194_41, if_pos rfl, vl', kI_r, g1, kI_r, if_pos (by rw [nMLt (by omega)]; trivial), t1, kI_r, if_pos rfl, q194_43, rZ_1]
  | some p =>
    obtain ⟨hp, hx, -⟩ := fnd_some hf
    have hx := of_decide_eq_true hx
    obtain ⟨m2, m3, m4, loop, r1, g3, r2, g4, W4, F4⟩ := v_strike (d := d) (x := x) G1.w (by omega) (k := b) (p := p) (y := y) hb hp hx y2
    have G4 := G1.wd W4 F4
    have t1 := tt_14 (d := d) G4.c (k := b) (y := Int32.ofNat 21) (by omega) (rngB_f (Or.inr (by rw [nToI (by omega)]; omega)))
    have G5 := G4.th
    obtain ⟨m6, g6, K6, F6⟩ := c146 (d := d) G5.he G5.c (k := b) (y := y) (p := p) (by omega) y1 y2 (by omega) hf
    have G6 := G5.chg F6 K6
    have vd := v_due (e := e) (d := d + 18) G6.w (k := b) hb
    refine ⟨m6, stkS s b (Int32.ofNat y), _, _, nb, ad, fun t => ?_, G6.le (by omega) (by omega), rfl, by omega, ?_⟩
    · have vl' : dN e (d + 19) 178 [.ref (ad 0), .int (Int32.ofNat b)] m = rI (Int32.ofNat p) m := by
        rw [vl]
        unfold fI
        rw [hf]
        rfl
      have lp := loop (t + 28)
      obtain ⟨u, hu⟩ : ∃ u, t + 28 + 30 - (nlS s - p) = u + 10 := ⟨t + 18 + 30 - (nlS s - p), by omega⟩
      rw [hu] at lp
      rw [q194_41, if_pos rfl, vl', kI_r, g1, kI_r, if_neg (by rw [nLt (by omega) (by omega)]; omega), q194_44, nAdd, lp, q194_46, r1, bd_s, nSub (by omega), g3, bd_s, r2, bd_s, g4, bd_s, t1, kI_r, if_pos rfl, g6, kI_r, vd, kI_r, if_pos rfl, q194_48, rZ_1]
    · rw [(stk_1 hl24).2.1]
      exact hyr
/-- a list is approved -/
theorem acI (G : GS e x0 x b0 l0 N f a bb C SS l nb Y ad h s Y s m) (hyr : s 0 = Int32.ofNat yr) : ∃ m' s' a' bb' nb' ad', (∀ t, runL e (dN e (d + 19)) 194 (t + 10) 49 [some (.ref x), some (.ref (ad 0)), none, none, none, none, none, none, none, none, none] [] m = rI (bI true) m') ∧ GS e x0 x b0 l0 N f a' bb' (C + 10) (SS + 100) l nb' Y ad' h s' Y s' m' ∧ ad' 0 = ad 0 ∧ a' ≤ a + 4 ∧ s' 0 = Int32.ofNat yr := by
  obtain ⟨m1, g1, K1, F1⟩ := c147 (d := d) G.he G.c
  have G1 := G.chg F1 K1
  obtain ⟨m2, g2, W2, F2⟩ := v_approves (e := e) (d := d + 16) G1.w
  have G2 := G1.wd W2 F2
  refine ⟨m2, aprS s h, a, _, nb, ad, fun t => ?_, G2.le (by omega) (by omega), rfl, by omega, by rw [apr_0]; exact hyr⟩
  rw [q194_49, g1, kI_r, g2, kI_r, if_pos rfl, q194_51, rZ_1]
end
end

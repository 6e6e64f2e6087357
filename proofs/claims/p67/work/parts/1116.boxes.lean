/-! ===== boxes are told (printed by wip/p67/wg3.py) ===== -/
noncomputable section
theorem WST_fr {e : dEnv} {nb Y : Nat} {ad : Nat → Nat} {h s : sV} : WFR nb ad (WST e nb Y ad h s) := fun m m' Z h1 h2 => Z.fr h1 h2
theorem w20 : wd 20 = 59 :: (wd 2 ++ [32]) := rfl
theorem w21 : wd 21 = 32 :: (wd 14 ++ [32]) := rfl
theorem cnt_no {p : Nat → Bool} : ∀ {n : Nat}, (∀ i, i < n → p i = false) → cnt p n = 0
  | 0, _ => rfl
  | n + 1, h => by rw [cnt_f (h n (by omega))]; exact cnt_no (fun i hi => h i (by omega))
/-- where there are more places than boxes one is free -/
theorem fst_free {Y : Nat} {h s : sV} (V : INV h s) (W : WS Y h s) (H : WH h) (hb : nbS s < mkN h) : ∃ q, fstS s h = Int32.ofNat q ∧ q < mkN h ∧ boxOnS s (Int32.ofNat q) = nM1 := by
  unfold fstS fI
  cases hf : fnd (mkN h) (frB s) with
  | none =>
    have h0 : freS s h = 0 := cnt_no (fnd_none hf)
    have h1 := fre_kep V W (WH_mk H).2.2
    have h2 := kep_gon2 s
    omega
  | some q =>
    obtain ⟨h1, h2, -⟩ := fnd_some hf
    exact ⟨q, rfl, h1, of_decide_eq_true h2⟩
theorem bo_lt {s : sV} {x : Int32} (hn : nbS s ≤ 24) : (boxOnS s x < Int32.ofNat 0) = (boxOnS s x = nM1) := by
  unfold boxOnS fI
  cases hq : fnd (nbS s) fun k => decide (bx s k 4 = x) with
  | none => show (nM1 < Int32.ofNat 0) = (nM1 = nM1); rw [nMLt (by omega)]; simp
  | some z =>
    have := (fnd_some hq).1
    show (Int32.ofNat z < Int32.ofNat 0) = (Int32.ofNat z = nM1)
    rw [nLt (by omega) (by omega), nEqM (by omega)]; simp
section
variable {e : dEnv} {d x0 b0 l0 N a tx C SS nb Y S P K R n k : Nat} {f : Nat → Int32} {bb : xB} {l : List Nat} {ad : Nat → Nat} {h s : sV} {m : dMem}
/-- a box is made -/
theorem WG.add (G : WG e x0 b0 l0 N f a tx bb C SS l nb ad (WST e nb Y ad h s) m) {s' : sV} {m' : dMem} (hnb : nb < 24) (W' : WST e (nb + 1) Y (xAd ad nb m.2.1) h s' m') (F : fW nb ad m m' 2 15) : ∃ bb', WG e x0 b0 l0 N f a tx bb' (C + 2) (SS + 15) l (nb + 1) (xAd ad nb m.2.1) (WST e (nb + 1) Y (xAd ad nb m.2.1) h s') m' := by
  have pr := G.x.pr
  have e1 : m'.2.1 = m.2.1 + 2 := by rw [F.2]
  have ml := G.mlt
  have hlt : ∀ q, q < x0 → q < m.2.1 := fun q h => pr.2.2.1 q (G.lo h)
  have ho : ∀ q, q < x0 → m'.1 q = m.1 q := fun q h => F.1 q (hlt q h) (fun i hi z => by have := (G.pl i hi).2.2.2; omega)
  have bl0 := pr.2.2.1 _ G.pb.1
  have bl1 := pr.2.2.1 _ G.pb.2
  refine ⟨(fun q => bb.1 q ∨ (m.2.1 ≤ q ∧ q < m'.2.1), bb.2), WG.of (w := W') (fr := WST_fr) (t := ?_) (x := G.x.gr _ (fun q h => h) (fun q h => Or.inl (pr.1 q h)) (fG.of F.2) (fun q h1 h2 => F.1 q h1 (fun i hi z => h2 (z ▸ (G.pl i hi).1)))) (kk := G.kk) (dg := G.dg.fr ho) (st := G.st.fr ho) (dr := G.dr.fr (F.1 _ bl0 (fun i hi => (G.pl i hi).2.1)) (F.1 _ bl1 (fun i hi => (G.pl i hi).2.2.1))) (pl := fun i hi => ?_) (pb := ⟨Or.inl G.pb.1, Or.inl G.pb.2⟩) (px := G.px)⟩
  · rw [xAd_o (by omega)]
    exact G.t
  · by_cases q1 : i = 7 + 2 * nb
    · subst q1
      rw [xAd_b]
      exact ⟨Or.inr ⟨Nat.le_refl _, by omega⟩, by omega, by omega, ml⟩
    · by_cases q2 : i = 7 + 2 * nb + 1
      · subst q2
        rw [xAd_q]
        exact ⟨Or.inr ⟨by omega, by omega⟩, by omega, by omega, by omega⟩
      · rw [xAd_o (by omega)]
        have := G.pl i (by omega)
        exact ⟨Or.inl this.1, this.2⟩
/-- the ranges that the World draws from -/
def RNG (h s : sV) (S P K R yr : Nat) : Prop := TLD h S P K R ∧ 1 ≤ S ∧ S ≤ 6 ∧ 1 ≤ P ∧ P ≤ 8 ∧ 1 ≤ K ∧ K ≤ 3 ∧ 1 ≤ R ∧ R ≤ 3 ∧ s 0 = Int32.ofNat yr ∧ 1900 ≤ yr ∧ yr ≤ 3000
theorem RNG.nn {yr : Nat} (Z : RNG h s S P K R yr) : nN (h 0) = S ∧ nN (h 1) = P ∧ nN (h 2) = K ∧ nN (h 3) = R ∧ mkN h = S * P ∧ nN (s 0) = yr ∧ S * P ≤ 48 := by
  obtain ⟨T, s1, s2, p1, p2, k1, k2, r1, r2, y0, y1, y2⟩ := Z
  have a0 : nN (h 0) = S := by rw [T.2.1]; exact nN_o (by omega)
  have a1 : nN (h 1) = P := by rw [T.2.2.1]; exact nN_o (by omega)
  refine ⟨a0, a1, ?_, ?_, ?_, ?_, Nat.mul_le_mul s2 p2⟩
  · rw [T.2.2.2.1]; exact nN_o (by omega)
  · rw [T.2.2.2.2.1]; exact nN_o (by omega)
  · unfold mkN; rw [a0, a1]
  · rw [y0]; exact nN_o (by omega)
theorem bBeg (G : WG e x0 b0 l0 N f a tx bb C SS l nb ad (WST e nb Y ad h s) m) {yr : Nat} (Q : RNG h s S P K R yr) (hb : nb < S * P) (ha : a ≤ 1000) (hn : n < 1000) : ∃ m1 k hi, k < K ∧ hi ≤ 90 ∧ WG e x0 b0 l0 N f (a + 2) tx bb C SS l nb ad (WST e nb Y ad h s) m1 ∧ ∀ t, ∃ t', t ≤ t' ∧ runL e (dN e (d + 9)) 167 (t + 2) 17 [some (.ref (ad 0)), some (.ref b0), some (.int (Int32.ofNat (n + 1))), none, none, none, none, none] [] m = runL e (dN e (d + 9)) 167 t' 19 [some (.ref (ad 0)), some (.ref b0), some (.int (Int32.ofNat (n + 1))), some (.int (Int32.ofNat k)), none, none, none, none] [.int (Int32.ofNat hi), .int (Int32.ofNat 0), .ref b0, .int (Int32.ofNat yr)] m1 := by
  have nn := Q.nn
  obtain ⟨T, s1, s2, p1, p2, k1, k2, r1, r2, y0, y1, y2⟩ := Q
  obtain ⟨k, m1, g1, -, kk, G1⟩ := wg_draw (d := d) G (lo := 0) (hi := K - 1) (by omega) (by omega) (by omega)
  obtain ⟨v, m2, g2, -, vv, G2⟩ := wg_draw (d := d) G1 (lo := 0) (hi := 1) (by omega) (by omega) (by omega)
  have st : ∀ t, runL e (dN e (d + 9)) 167 (t + 1) 17 [some (.ref (ad 0)), some (.ref b0), some (.int (Int32.ofNat (n + 1))), none, none, none, none, none] [] m = (if Int32.ofNat v = Int32.ofNat 0 then runL e (dN e (d + 9)) 167 t 19 [some (.ref (ad 0)), some (.ref b0), some (.int (Int32.ofNat (n + 1))), some (.int (Int32.ofNat k)), none, none, none, none] [.int (Int32.ofNat 90), .int (Int32.ofNat 0), .ref b0, .int (Int32.ofNat yr)] m2 else runL e (dN e (d + 9)) 167 t 18 [some (.ref (ad 0)), some (.ref b0), some (.int (Int32.ofNat (n + 1))), some (.int (Int32.ofNat k)), none, none, none, none] [.int (Int32.ofNat 0), .ref b0, .int (Int32.ofNat yr)] m2) := by
    intro t
    rw [q167_17, if_pos (by rw [nLt (by omega) (by omega)]; omega), f_nb G.w, bd_s, f_S G.w, bd_s, f_P G.w, bd_s, T.2.1, T.2.2.1, nMul, if_pos (by rw [nLt (by omega) (by omega)]; exact hb), f_K G.w, bd_s, T.2.2.2.1, nSub (by omega), g1, kI_r, f_yr G1.w, bd_s, y0, g2, kI_r]
  by_cases q : v = 0
  · refine ⟨m2, k, 90, by omega, by omega, G2, fun t => ⟨t + 1, by omega, ?_⟩⟩
    rw [st, if_pos (by rw [q])]
  · refine ⟨m2, k, 6, by omega, by omega, G2, fun t => ⟨t, Nat.le_refl _, ?_⟩⟩
    rw [st, if_neg (by rw [nEq (by omega) (by omega)]; exact q), q167_18]
/-- behind the place that was drawn: the first free one -/
theorem bFre (G : WG e x0 b0 l0 N f a tx bb C SS l nb ad (WST e nb Y ad h s) m) {yr y : Nat} (Q : RNG h s S P K R yr) (hb : nb < S * P) (hnb : nb < 24) (hY : Y ≤ 1000000) (hk : k < K) (y1 : 1800 ≤ y) (y2 : y ≤ yr) (hn : n < 1000) : ∃ m1 bb' ad', ad' 0 = ad 0 ∧ WG e x0 b0 l0 N f a tx bb' (C + 2) (SS + 15) l (nb + 1) ad' (WST e (nb + 1) Y ad' h (newS s (Int32.ofNat k) (Int32.ofNat y) (fstS s h))) m1 ∧ ∀ t, runL e (dN e (d + 9)) 167 (t + 2) 20 [some (.ref (ad 0)), some (.ref b0), some (.int (Int32.ofNat (n + 1))), some (.int (Int32.ofNat k)), some (.int (Int32.ofNat y)), none, none, none] [] m = runL e (dN e (d + 9)) 167 t 17 [some (.ref (ad 0)), some (.ref b0), some (.int (Int32.ofNat n)), none, none, none, none, none] [] m1 := by
  have nn := Q.nn
  obtain ⟨T, s1, s2, p1, p2, k1, k2, r1, r2, y0, -, -⟩ := Q
  obtain ⟨W, H⟩ := G.w.ws
  have V := G.w.inv
  have hns := G.w.nbs
  obtain ⟨q, q1, q2, q3⟩ := fst_free V W H (by rw [hns.1, nn.2.2.2.2.1]; exact hb)
  have qq : q / P * P + q % P = q := by rw [Nat.mul_comm]; exact Nat.div_add_mod q P
  have q48 : q < 48 := by omega
  have fr := v_free (e := e) (d := d + 7) G.w
  rw [q1] at fr
  have hqi : q / P < S := Nat.div_lt_of_lt_mul (by rw [Nat.mul_comm, ← nn.2.2.2.2.1]; exact q2)
  have hqj : q % P < P := Nat.mod_lt _ (by omega)
  obtain ⟨m1, g1, W1, F1⟩ := v_adds (e := e) (d := d + 7) G.w hY hnb (c := k) (y := y) (i := q / P) (j := q % P) (by omega) (by omega) y1 (by omega) (by omega) (by omega) (by rw [nn.2.1, qq]; exact q3)
  rw [nn.2.1, qq, ← q1] at W1
  obtain ⟨bb', G1⟩ := G.add hnb W1 F1
  refine ⟨m1, bb', _, xAd_o (by omega), G1, fun t => ?_⟩
  have hP0 : ¬ Int32.ofNat P = Int32.ofNat 0 := by rw [nEq (by omega) (by omega)]; omega
  rw [q167_20, fr, kI_r, f_P G.w, bd_s, T.2.2.1, if_neg hP0, fr, kI_r, f_P G.w, bd_s, T.2.2.1, if_neg hP0, nMod (by omega) (by omega), nDiv (by omega) (by omega), g1, kV_r, q167_21, nDec (by omega), Nat.add_sub_cancel]
end
/-- so many boxes are told -/
def IB (e : dEnv) (x0 b0 l0 N : Nat) (f : Nat → Int32) (tx w : Nat) (h : sV) (S P K R yr n0 C0 S0 j : Nat) (m : dMem) : Prop := ∃ a bb l ad s, WG e x0 b0 l0 N f a tx bb (C0 + 2 * j) (S0 + 15 * j) l j ad (WST e j 2500 ad h s) m ∧ ad 0 = w ∧ RNG h s S P K R yr ∧ PT l s h 0 (n0 + j) ∧ l.length ≤ 149 + 19 * j ∧ a ≤ 50 + 7 * j
section
variable {e : dEnv} {d x0 b0 l0 N tx w S P K R yr n0 C0 S0 j n : Nat} {f : Nat → Int32} {h : sV} {m : dMem}
theorem IB_step (I : IB e x0 b0 l0 N f tx w h S P K R yr n0 C0 S0 j m) (hj : j < S * P) (hj9 : j < 9) (hn : n < 1000) (hn0 : n0 ≤ 6) : ∃ m', IB e x0 b0 l0 N f tx w h S P K R yr n0 C0 S0 (j + 1) m' ∧ ∀ t, ∃ t', t ≤ t' ∧ runL e (dN e (d + 9)) 167 (t + 5) 17 [some (.ref w), some (.ref b0), some (.int (Int32.ofNat (n + 1))), none, none, none, none, none] [] m = runL e (dN e (d + 9)) 167 t' 17 [some (.ref w), some (.ref b0), some (.int (Int32.ofNat n)), none, none, none, none, none] [] m' := by
  obtain ⟨a, bb, l, ad, s, G, hw, Q, PP, hl, ha⟩ := I
  subst hw
  have nn := Q.nn
  have QQ := Q
  obtain ⟨m1, k, hi, hk, h90, G1, r1⟩ := bBeg (d := d) G Q hj (by omega) hn
  obtain ⟨T, s1, s2, p1, p2, k1, k2, u1, u2, y0, y1, y2⟩ := Q
  obtain ⟨x, m2, g2, -, xx, G2⟩ := wg_draw (d := d) G1 (lo := 0) (hi := hi) (by omega) (by omega) (by omega)
  obtain ⟨sh, m3, g3, -, hs, G3⟩ := wg_draw (d := d) G2 (lo := 0) (hi := S - 1) (by omega) (by omega) (by omega)
  obtain ⟨pl, m4, g4, -, hp, G4⟩ := wg_draw (d := d) G3 (lo := 0) (hi := P - 1) (by omega) (by omega) (by omega)
  have l20 : (wd 20).length = 5 := rfl
  have l21 : (wd 21).length = 4 := rfl
  have lk := dl1 (v := k) (by omega)
  have ly := dl4 (v := yr - x) (by omega)
  have ls := dl1 (v := sh) (by omega)
  have lp := dl1 (v := pl) (by omega)
  obtain ⟨m5, g5, G5⟩ := wg_k (d := d) G4 (k := 20) (by omega) (by omega)
  obtain ⟨m6, g6, G6⟩ := wg_n (d := d) G5 (v := k) (by omega) (by rw [List.length_append]; omega)
  obtain ⟨m7, g7, G7⟩ := wg_c (d := d) G6 (v := 32) (by omega) (by simp only [List.length_append]; omega)
  obtain ⟨m8, g8, G8⟩ := wg_n (d := d) G7 (v := yr - x) (by omega) (by simp only [List.length_append, List.length_cons, List.length_nil]; omega)
  have hat := v_at (e := e) (d := d + 8) G8.w (i := sh) (j := pl) (by omega) (by omega)
  obtain ⟨W, H⟩ := G8.w.ws
  have V := G8.w.inv
  have hns := G8.w.nbs
  have hfs : fstS s h ≠ nM1 := by
    obtain ⟨q, q1, q2, -⟩ := fst_free V W H (by rw [hns.1, nn.2.2.2.2.1]; exact hj)
    rw [q1]
    intro z
    rw [nEqM (by omega)] at z
    exact z
  have n0' : ∀ c y q, newS s c y q 0 = s 0 := fun c y q => new_lo (by omega) (by omega)
  have Q' : ∀ c y q, RNG h (newS s c y q) S P K R yr := fun c y q => ⟨T, s1, s2, p1, p2, k1, k2, u1, u2, by rw [n0']; exact y0, y1, y2⟩
  have hP3 : gI m3 (ad 0) 12 2 = some (Int32.ofNat P) := by rw [f_P G3.w, T.2.2.1]
  -- up to the question whether the place is free
  have st : ∀ t, runL e (dN e (d + 9)) 167 (t + 1) 19 [some (.ref (ad 0)), some (.ref b0), some (.int (Int32.ofNat (n + 1))), some (.int (Int32.ofNat k)), none, none, none, none] [.int (Int32.ofNat hi), .int (Int32.ofNat 0), .ref b0, .int (Int32.ofNat yr)] m1 = (if boxOnS s (Int32.ofNat (sh * nN (h 1) + pl)) < Int32.ofNat 0 then (kI (dN e (d + 9) 164 [.ref b0, .int (Int32.ofNat 0), .int (Int32.ofNat 1)] m8) dPass fun v21 m20 => (if v21 = Int32.ofNat 0 then ((gR m20 (ad 0) 12 0).bind fun v22 => (kR (dN e (d + 9) 392 [.ref v22, .ref (e.2 21)] m20) dPass fun v24 m23 => (kR (dN e (d + 9) 368 [.ref v24, .int (Int32.ofNat sh)] m23) dPass fun v26 m25 => (kR (dN e (d + 9) 367 [.ref v26, .int (Int32.ofNat 32)] m25) dPass fun v28 m27 => (kR (dN e (d + 9) 368 [.ref v28, .int (Int32.ofNat pl)] m27) dPass fun v30 m29 => (kV (dN e (d + 9) 170 [.ref (ad 0), .int (Int32.ofNat k), .int (Int32.ofNat (yr - x)), .int (Int32.ofNat sh), .int (Int32.ofNat pl)] m29) dPass fun m31 => runL e (dN e (d + 9)) 167 t 21 [some (.ref (ad 0)), some (.ref b0), some (.int (Int32.ofNat (n + 1))), none, none, none, none, none] [] m31)))))) else runL e (dN e (d + 9)) 167 t 20 [some (.ref (ad 0)), some (.ref b0), some (.int (Int32.ofNat (n + 1))), some (.int (Int32.ofNat k)), some (.int (Int32.ofNat (yr - x))), none, none, none] [] m20)) else runL e (dN e (d + 9)) 167 t 20 [some (.ref (ad 0)), some (.ref b0), some (.int (Int32.ofNat (n + 1))), some (.int (Int32.ofNat k)), some (.int (Int32.ofNat (yr - x))), none, none, none] [] m8) := by
    intro t
    rw [q167_19, g2, kI_r, f_S G2.w, bd_s, T.2.1, nSub s1, g3, kI_r, hP3, bd_s, nSub p1, g4, kI_r, f_tx G4.w, bd_s, G4.t, g5, kR_r, g6, kR_r, g7, kR_r, nSub (by omega), g8, kR_r, hat, kI_r]
  -- without a place
  have noat : ∀ {a' : Nat} {m9 : dMem}, WG e x0 b0 l0 N f a' tx bb (C0 + 2 * j) (S0 + 15 * j) (l ++ wd 20 ++ dig k ++ [32] ++ dig (yr - x)) j ad (WST e j 2500 ad h s) m9 → a' ≤ a + 6 → ∃ m', IB e x0 b0 l0 N f tx (ad 0) h S P K R yr n0 C0 S0 (j + 1) m' ∧ ∀ t, runL e (dN e (d + 9)) 167 (t + 2) 20 [some (.ref (ad 0)), some (.ref b0), some (.int (Int32.ofNat (n + 1))), some (.int (Int32.ofNat k)), some (.int (Int32.ofNat (yr - x))), none, none, none] [] m9 = runL e (dN e (d + 9)) 167 t 17 [some (.ref (ad 0)), some (.ref b0), some (.int (Int32.ofNat n)), none, none, none, none, none] [] m' := by
    intro a' m9 G9 ha'
    obtain ⟨m', bb', ad', w', G', rr⟩ := bFre (d := d) G9 QQ hj (by omega) (by omega) hk (y := yr - x) (by omega) (by omega) hn
    refine ⟨m', ⟨a', bb', _, ad', _, G'.le (by omega) (by omega), w', Q' _ _ _, ?_, ?_, by omega⟩, rr⟩
    · have e1 : l ++ wd 20 ++ dig k ++ [32] ++ dig (yr - x) = l ++ (59 :: (wd 2 ++ 32 :: (dig k ++ 32 :: dig (yr - x)))) := by
        rw [w20]
        simp only [List.append_assoc, List.cons_append, List.nil_append]
      rw [e1]
      exact PT_line (n := n0 + j) PP (by omega) ⟨_, rfl⟩ (fun T c Z Rr B E => ln_box Z Rr B E (by omega) hfs (by omega) (by omega) (by omega) (by omega) (by omega))
    · simp only [List.length_append, List.length_cons, List.length_nil]
      omega
  by_cases hb : boxOnS s (Int32.ofNat (sh * nN (h 1) + pl)) = nM1
  · obtain ⟨v, m9, g9, -, vv, G9⟩ := wg_draw (d := d) G8 (lo := 0) (hi := 1) (by omega) (by omega) (by omega)
    by_cases q : v = 0
    · obtain ⟨m10, g10, G10⟩ := wg_k (d := d) G9 (k := 21) (by omega) (by simp only [List.length_append, List.length_cons, List.length_nil]; omega)
      obtain ⟨m11, g11, G11⟩ := wg_n (d := d) G10 (v := sh) (by omega) (by simp only [List.length_append, List.length_cons, List.length_nil]; omega)
      obtain ⟨m12, g12, G12⟩ := wg_c (d := d) G11 (v := 32) (by omega) (by simp only [List.length_append, List.length_cons, List.length_nil]; omega)
      obtain ⟨m13, g13, G13⟩ := wg_n (d := d) G12 (v := pl) (by omega) (by simp only [List.length_append, List.length_cons, List.length_nil]; omega)
      obtain ⟨m14, g14, W14, F14⟩ := v_adds (e := e) (d := d + 7) G13.w (by omega) (by omega) (c := k) (y := yr - x) (i := sh) (j := pl) (by omega) (by omega) (by omega) (by omega) (by omega) (by omega) hb
      obtain ⟨bb', G14⟩ := G13.add (by omega) W14 F14
      refine ⟨m14, ⟨_, bb', _, _, _, G14.le (by omega) (by omega), xAd_o (by omega), Q' _ _ _, ?_, ?_, by omega⟩, fun t => ?_⟩
      · have e1 : l ++ wd 20 ++ dig k ++ [32] ++ dig (yr - x) ++ wd 21 ++ dig sh ++ [32] ++ dig pl = l ++ (59 :: (wd 2 ++ 32 :: (dig k ++ 32 :: (dig (yr - x) ++ 32 :: (wd 14 ++ 32 :: (dig sh ++ 32 :: dig pl)))))) := by
          rw [w20, w21]
          simp only [List.append_assoc, List.cons_append, List.nil_append]
        rw [e1]
        exact PT_line (n := n0 + j) PP (by omega) ⟨_, rfl⟩ (fun T c Z Rr B E => ln_boxa Z Rr B E (by omega) hfs (by omega) (by omega) (by omega) (by omega) (by omega) (by omega) (by omega) (by omega) (by omega) hb)
      · simp only [List.length_append, List.length_cons, List.length_nil]
        omega
      · obtain ⟨t1, a1, b1⟩ := r1 (t + 3)
        obtain ⟨u, rfl⟩ : ∃ u, t1 = u + 2 := ⟨t1 - 2, by omega⟩
        refine ⟨u, by omega, ?_⟩
        rw [b1, st, if_pos (by rw [bo_lt (by omega)]; exact hb), g9, kI_r, if_pos (by rw [q]), f_tx G9.w, bd_s, G9.t, g10, kR_r, g11, kR_r, g12, kR_r, g13, kR_r, g14, kV_r, q167_21, nDec (by omega), Nat.add_sub_cancel]
    · obtain ⟨m', I', rr⟩ := noat G9 (by omega)
      refine ⟨m', I', fun t => ?_⟩
      obtain ⟨t1, a1, b1⟩ := r1 (t + 3)
      obtain ⟨u, rfl⟩ : ∃ u, t1 = u + 3 := ⟨t1 - 3, by omega⟩
      refine ⟨u, by omega, ?_⟩
      rw [b1, st, if_pos (by rw [bo_lt (by omega)]; exact hb), g9, kI_r, if_neg (by rw [nEq (by omega) (by omega)]; exact q), rr]
  · obtain ⟨m', I', rr⟩ := noat G8 (by omega)
    refine ⟨m', I', fun t => ?_⟩
    obtain ⟨t1, a1, b1⟩ := r1 (t + 3)
    obtain ⟨u, rfl⟩ : ∃ u, t1 = u + 3 := ⟨t1 - 3, by omega⟩
    refine ⟨u, by omega, ?_⟩
    rw [b1, st, if_neg (by rw [bo_lt (by omega)]; exact hb), rr]
theorem boxes_t : ∀ (n j : Nat) (m : dMem), IB e x0 b0 l0 N f tx w h S P K R yr n0 C0 S0 j m → n + j ≤ 9 → n0 ≤ 6 → ∃ m' j', j ≤ j' ∧ j' ≤ 9 ∧ IB e x0 b0 l0 N f tx w h S P K R yr n0 C0 S0 j' m' ∧ ∀ t, ∃ t', t ≤ t' ∧ runL e (dN e (d + 9)) 167 (t + 5 * n + 1) 17 [some (.ref w), some (.ref b0), some (.int (Int32.ofNat n)), none, none, none, none, none] [] m = runL e (dN e (d + 9)) 167 t' 22 [some (.ref w), some (.ref b0), none, none, none, none, none, none] [] m' := by
  intro n
  induction n with
  | zero =>
    intro j m I hj _
    refine ⟨m, j, Nat.le_refl _, by omega, I, fun t => ⟨t, Nat.le_refl _, ?_⟩⟩
    rw [Nat.mul_zero, Nat.add_zero, q167_17, if_neg (by rw [nLt (by omega) (by omega)]; omega)]
  | succ n ih =>
    intro j m I hj h0
    by_cases q : j < S * P
    · obtain ⟨m1, I1, g1⟩ := IB_step (d := d) I q (by omega) (n := n) (by omega) h0
      obtain ⟨m', j', a1, a2, I', g2⟩ := ih (j + 1) m1 I1 (by omega) h0
      refine ⟨m', j', by omega, a2, I', fun t => ?_⟩
      obtain ⟨t1, b1, c1⟩ := g1 (t + 5 * n + 1)
      obtain ⟨t2, b2, c2⟩ := g2 (t1 - (5 * n + 1))
      refine ⟨t2, by omega, ?_⟩
      rw [show t1 - (5 * n + 1) + 5 * n + 1 = t1 by omega] at c2
      rw [show t + 5 * (n + 1) + 1 = t + 5 * n + 1 + 5 by omega, c1, c2]
    · refine ⟨m, j, Nat.le_refl _, by omega, I, fun t => ⟨t + 5 * (n + 1), by omega, ?_⟩⟩
      obtain ⟨a, bb, l, ad, s, G, hw, Q, PP, hl, ha⟩ := I
      subst hw
      have nn := Q.nn
      obtain ⟨T, s1, s2, p1, p2, k1, k2, u1, u2, y0, y1, y2⟩ := Q
      rw [q167_17, if_pos (by rw [nLt (by omega) (by omega)]; omega), f_nb G.w, bd_s, f_S G.w, bd_s, f_P G.w, bd_s, T.2.1, T.2.2.1, nMul, if_neg (by rw [nLt (by omega) (by omega)]; omega)]
end
end

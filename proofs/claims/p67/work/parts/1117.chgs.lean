/-! ===== changes are told (printed by wip/p67/wg4.py) ===== -/
noncomputable section
theorem w22 : wd 22 = 59 :: (wd 11 ++ [32]) := rfl
theorem w23 : wd 23 = 59 :: (wd 4 ++ [32]) := rfl
theorem w24 : wd 24 = 59 :: (wd 5 ++ [32]) := rfl
theorem w25 : wd 25 = 59 :: wd 8 := rfl
theorem w26 : wd 26 = 59 :: wd 10 := rfl
theorem w27 : wd 27 = 59 :: (wd 12 ++ [32]) := rfl
theorem w28 : wd 28 = 40 :: (wd 8 ++ 59 :: (wd 11 ++ 32 :: (dig 1 ++ [41]))) := rfl
theorem pas_0 {s h : sV} : pasS s h 0 = s 0 + Int32.ofNat 1 := by
  show upF (srvF h) (nbS s) (upF eolF (nbS s) (wr s 0 (s 0 + Int32.ofNat 1))) 0 = _
  rw [srvs_lo (by omega), eols_lo (by omega), wr_s]
theorem yrs_0 {s h : sV} {yr : Nat} (h0 : s 0 = Int32.ofNat yr) : ∀ n, yrsS h n s 0 = Int32.ofNat (yr + n)
  | 0 => h0
  | n + 1 => by
    show pasS (yrsS h n s) h 0 = _
    rw [pas_0, yrs_0 h0 n, nAdd]
    rfl
theorem lists_0 {Y : Nat} {h s : sV} (W : WS Y h s) : listsS s h 0 = s 0 := (lists_en W).2.1
theorem apr_0 {h s : sV} : aprS s h 0 = s 0 := by
  show wr (aprP s h).2 2 (Int32.ofNat 0) 0 = _
  rw [wr_n (by omega)]
  exact apr_l (by omega)
theorem RNG.to {h s s' : sV} {S P K R yr yr' : Nat} (Z : RNG h s S P K R yr) (h0 : s' 0 = Int32.ofNat yr') (h1 : yr ≤ yr') (h2 : yr' ≤ 3000) : RNG h s' S P K R yr' := by
  obtain ⟨T, s1, s2, p1, p2, k1, k2, u1, u2, y0, y1, y2⟩ := Z
  exact ⟨T, s1, s2, p1, p2, k1, k2, u1, u2, h0, by omega, h2⟩
section
variable {e : dEnv} {d x0 b0 l0 N a tx C SS nb Y S P K R n wh b r x : Nat} {f : Nat → Int32} {bb : xB} {l : List Nat} {ad : Nat → Nat} {h s : sV} {m : dMem}
theorem hBeg (G : WG e x0 b0 l0 N f a tx bb C SS l nb ad (WST e nb Y ad h s) m) {yr : Nat} (Q : RNG h s S P K R yr) (hb : 0 < nb) (hb2 : nb ≤ 24) (ha : a ≤ 1000) (hn : n < 1000) (hl : l.length ≤ 500) : ∃ m1 wh b r x, wh ≤ 5 ∧ b < nb ∧ r < R ∧ 1 ≤ x ∧ x ≤ 4 ∧ WG e x0 b0 l0 N f (a + 4) tx bb C SS l nb ad (WST e nb Y ad h s) m1 ∧ ∀ t, runL e (dN e (d + 9)) 167 (t + 1) 23 [some (.ref (ad 0)), some (.ref b0), some (.int (Int32.ofNat (n + 1))), none, none, none, none, none] [] m = (if Int32.ofNat wh = Int32.ofNat 0 then (kR (dN e (d + 9) 392 [.ref tx, .ref (e.2 22)] m1) dPass fun v17 m16 => (kR (dN e (d + 9) 368 [.ref v17, .int (Int32.ofNat x)] m16) dPass fun v19 m18 => (kV (dN e (d + 9) 186 [.ref (ad 0), .int (Int32.ofNat x)] m18) dPass fun m20 => runL e (dN e (d + 9)) 167 t 30 [some (.ref (ad 0)), some (.ref b0), some (.int (Int32.ofNat (n + 1))), none, none, none, none, none] [] m20))) else runL e (dN e (d + 9)) 167 t 24 [some (.ref (ad 0)), some (.ref b0), some (.int (Int32.ofNat (n + 1))), some (.int (Int32.ofNat wh)), some (.int (Int32.ofNat b)), some (.int (Int32.ofNat r)), some (.int (Int32.ofNat x)), none] [] m1) := by
  obtain ⟨T, s1, s2, p1, p2, k1, k2, r1, r2, y0, y1, y2⟩ := Q
  obtain ⟨wh, m1, g1, -, q1, G1⟩ := wg_draw (d := d) G (lo := 0) (hi := 5) (by omega) (by omega) (by omega)
  obtain ⟨b, m2, g2, -, q2, G2⟩ := wg_draw (d := d) G1 (lo := 0) (hi := nb - 1) (by omega) (by omega) (by omega)
  obtain ⟨r, m3, g3, -, q3, G3⟩ := wg_draw (d := d) G2 (lo := 0) (hi := R - 1) (by omega) (by omega) (by omega)
  obtain ⟨x, m4, g4, q4, q5, G4⟩ := wg_draw (d := d) G3 (lo := 1) (hi := 4) (by omega) (by omega) (by omega)
  refine ⟨m4, wh, b, r, x, q1, by omega, by omega, q4, q5, G4, fun t => ?_⟩
  rw [q167_23, if_pos (by rw [nLt (by omega) (by omega)]; omega), f_nb G.w, bd_s, if_pos (by rw [nLt (by omega) (by omega)]; omega), f_tx G.w, bd_s, G.t, wg_len G, kI_r, if_pos (by rw [nLt (by omega) (by omega)]; omega), g1, kI_r, f_nb G1.w, bd_s, nSub (by omega), g2, kI_r, f_R G2.w, bd_s, T.2.2.2.2.1, nSub (by omega), g3, kI_r, g4, kI_r, f_tx G4.w, bd_s, G4.t]
/-- what one change has done: rows, years, letters -/
def HST (e : dEnv) (x0 b0 l0 N : Nat) (f : Nat → Int32) (a tx C SS : Nat) (l : List Nat) (nb Y : Nat) (ad : Nat → Nat) (h s : sV) (y : Nat) (m' : dMem) : Prop := ∃ bb' s' y' w, WG e x0 b0 l0 N f a tx bb' (C + 5) (SS + 120) (l ++ w) nb ad (WST e nb (Y + y') ad h s') m' ∧ (∃ r, w = 59 :: r) ∧ w.length ≤ 24 ∧ y' ≤ 4 ∧ (∀ T c, TOK T → RD T c l.length → BY T l.length w → EDs T (l.length + w.length) → LNE T c l.length (l.length + w.length) (s, h, y) (s', h, y + y')) ∧ ∀ yr, s 0 = Int32.ofNat yr → s' 0 = Int32.ofNat (yr + y')
theorem h0 (G : WG e x0 b0 l0 N f a tx bb C SS l nb ad (WST e nb Y ad h s) m) {y : Nat} (x1 : 1 ≤ x) (x4 : x ≤ 4) (hl : l.length ≤ 500) (hY : Y ≤ 3000) (hy : y ≤ 400) : ∃ m1 m2 m', dN e (d + 9) 392 [.ref tx, .ref (e.2 22)] m = some (.inl (some (.ref tx)), m1) ∧ dN e (d + 9) 368 [.ref tx, .int (Int32.ofNat x)] m1 = some (.inl (some (.ref tx)), m2) ∧ dN e (d + 9) 186 [.ref (ad 0), .int (Int32.ofNat x)] m2 = some (.inl none, m') ∧ HST e x0 b0 l0 N f a tx C SS l nb Y ad h s y m' := by
  have l22 : (wd 22).length = 6 := rfl
  have lx := dl1 (v := x) (by omega)
  obtain ⟨m1, g1, G1⟩ := wg_k (d := d) G (k := 22) (by omega) (by omega)
  obtain ⟨m2, g2, G2⟩ := wg_n (d := d) G1 (v := x) (by omega) (by rw [List.length_append]; omega)
  obtain ⟨m3, g3, W3, F3⟩ := v_years (e := e) (d := d + 6) G2.w (n := x) (by omega) (by omega)
  have G3 := G2.cha F3 W3 WST_fr
  have e1 : l ++ wd 22 ++ dig x = l ++ (59 :: (wd 11 ++ 32 :: dig x)) := by
    rw [w22]
    simp only [List.append_assoc, List.cons_append, List.nil_append]
  rw [e1] at G3
  refine ⟨m1, m2, m3, g1, g2, g3, _, _, x, _, G3.le (by omega) (by omega), ⟨_, rfl⟩, ?_, x4, fun T c Z Rr B E => ln_pass Z Rr B E x1 (by omega) (by omega), fun yr q => yrs_0 q x⟩
  have l11 : (wd 11).length = 4 := rfl
  simp only [List.length_append, List.length_cons]
  omega
/-- a box is sealed -/
theorem h1 (G : WG e x0 b0 l0 N f a tx bb C SS l nb ad (WST e nb Y ad h s) m) {y yr : Nat} (hb : b < nb) (hb2 : nb ≤ 24) (hg : gonB s b = false) (hyr : s 0 = Int32.ofNat yr) (hy3 : yr ≤ 3000) (x4 : x ≤ 4) (hl : l.length ≤ 500) (hn : n < 1000) : ∃ m', HST e x0 b0 l0 N f a tx C SS l nb Y ad h s y m' ∧ ∀ t, runL e (dN e (d + 9)) 167 (t + 1) 24 [some (.ref (ad 0)), some (.ref b0), some (.int (Int32.ofNat (n + 1))), some (.int (Int32.ofNat 1)), some (.int (Int32.ofNat b)), some (.int (Int32.ofNat r)), some (.int (Int32.ofNat x)), none] [] m = runL e (dN e (d + 9)) 167 t 30 [some (.ref (ad 0)), some (.ref b0), some (.int (Int32.ofNat (n + 1))), none, none, none, none, none] [] m' := by
  have l23 : (wd 23).length = 6 := rfl
  have lb := dl2 (v := b) (by omega)
  have ly := dl4 (v := yr + x) (by omega)
  obtain ⟨m1, g1, G1⟩ := wg_k (d := d) G (k := 23) (by omega) (by omega)
  obtain ⟨m2, g2, G2⟩ := wg_n (d := d) G1 (v := b) (by omega) (by rw [List.length_append]; omega)
  obtain ⟨m3, g3, G3⟩ := wg_c (d := d) G2 (v := 32) (by omega) (by simp only [List.length_append]; omega)
  obtain ⟨m4, g4, G4⟩ := wg_n (d := d) G3 (v := yr + x) (by omega) (by simp only [List.length_append, List.length_cons, List.length_nil]; omega)
  obtain ⟨m5, g5, W5, F5⟩ := v_seal (k := b) (x := Int32.ofNat (yr + x)) G4.w hb hg
  have G5 := G4.cha F5 W5 WST_fr
  have e1 : l ++ wd 23 ++ dig b ++ [32] ++ dig (yr + x) = l ++ (59 :: (wd 4 ++ 32 :: (dig b ++ 32 :: dig (yr + x)))) := by
    rw [w23]
    simp only [List.append_assoc, List.cons_append, List.nil_append]
  rw [e1] at G5
  have hns := G.w.nbs
  have y0 : nN (s 0) = yr := by rw [hyr]; exact nN_o (by omega)
  have hgo := f_b10g G.w hb
  rw [hg] at hgo
  refine ⟨m5, ⟨_, _, 0, _, G5.le (by omega) (by omega), ⟨_, rfl⟩, ?_, by omega, fun T c Z Rr B E => ln_seal Z Rr B E (by omega) (by omega) hg (by omega) (by omega), fun yr q => by rw [lay_lo (by omega)]; exact q⟩, fun t => ?_⟩
  · have l4 : (wd 4).length = 4 := rfl
    simp only [List.length_append, List.length_cons]
    omega
  · rw [q167_24, if_pos rfl, f_rbxs G.w, bd_s, f_box G.w hb (by omega), bd_s, hgo, bd_s, bI_f, if_pos rfl, f_tx G.w, bd_s, G.t, g1, kR_r, g2, kR_r, g3, kR_r, f_yr G3.w, bd_s, hyr, nAdd, g4, kR_r, f_rbxs G4.w, bd_s, f_box G4.w hb (by omega), bd_s, f_yr G4.w, bd_s, hyr, nAdd, g5, bd_s]
/-- a box is asked for -/
theorem h2 (G : WG e x0 b0 l0 N f a tx bb C SS l nb ad (WST e nb Y ad h s) m) {y : Nat} (hb : b < nb) (hb2 : nb ≤ 24) (hr : r < R) (hR : nN (h 3) = R) (hR3 : R ≤ 3) (ho : obsS s h (Int32.ofNat r) b = Int32.ofNat 0) (hl : l.length ≤ 500) (hn : n < 1000) : ∃ m', HST e x0 b0 l0 N f a tx C SS l nb Y ad h s y m' ∧ ∀ t, runL e (dN e (d + 9)) 167 (t + 1) 25 [some (.ref (ad 0)), some (.ref b0), some (.int (Int32.ofNat (n + 1))), some (.int (Int32.ofNat 2)), some (.int (Int32.ofNat b)), some (.int (Int32.ofNat r)), some (.int (Int32.ofNat x)), none] [] m = runL e (dN e (d + 9)) 167 t 30 [some (.ref (ad 0)), some (.ref b0), some (.int (Int32.ofNat (n + 1))), none, none, none, none, none] [] m' := by
  have l24 : (wd 24).length = 9 := rfl
  have lb := dl2 (v := b) (by omega)
  have lr := dl1 (v := r) (by omega)
  obtain ⟨m1, g1, G1⟩ := wg_k (d := d) G (k := 24) (by omega) (by omega)
  obtain ⟨m2, g2, G2⟩ := wg_n (d := d) G1 (v := r) (by omega) (by rw [List.length_append]; omega)
  obtain ⟨m3, g3, G3⟩ := wg_c (d := d) G2 (v := 32) (by omega) (by simp only [List.length_append]; omega)
  obtain ⟨m4, g4, G4⟩ := wg_n (d := d) G3 (v := b) (by omega) (by simp only [List.length_append, List.length_cons, List.length_nil]; omega)
  obtain ⟨m5, g5, W5, F5⟩ := v_requests (e := e) (d := d + 7) G4.w hb (r := r) (by omega) ho
  have G5 := G4.cha F5 W5 WST_fr
  have e1 : l ++ wd 24 ++ dig r ++ [32] ++ dig b = l ++ (59 :: (wd 5 ++ 32 :: (dig r ++ 32 :: dig b))) := by
    rw [w24]
    simp only [List.append_assoc, List.cons_append, List.nil_append]
  rw [e1] at G5
  have hns := G.w.nbs
  have hba := v_bar (e := e) (d := d + 7) G.w hb (x := Int32.ofNat r)
  rw [ho] at hba
  refine ⟨m5, ⟨_, _, 0, _, G5.le (by omega) (by omega), ⟨_, rfl⟩, ?_, by omega, fun T c Z Rr B E => ln_req Z Rr B E (by omega) (by omega) (by omega) (by omega) ho, fun yr q => by rw [req_lo (by omega)]; exact q⟩, fun t => ?_⟩
  · have l5 : (wd 5).length = 7 := rfl
    simp only [List.length_append, List.length_cons]
    omega
  · rw [q167_25, if_pos rfl, hba, kI_r, if_pos rfl, f_tx G.w, bd_s, G.t, g1, kR_r, g2, kR_r, g3, kR_r, g4, kR_r, g5]
    rfl
/-- a list is made; it is approved -/
theorem h3 (G : WG e x0 b0 l0 N f a tx bb C SS l nb ad (WST e nb Y ad h s) m) {y : Nat} (hl : l.length ≤ 500) : ∃ m', HST e x0 b0 l0 N f a tx C SS l nb Y ad h s y m' ∧ ∀ t, runL e (dN e (d + 9)) 167 (t + 1) 26 [some (.ref (ad 0)), some (.ref b0), some (.int (Int32.ofNat (n + 1))), some (.int (Int32.ofNat 3)), none, none, some (.int (Int32.ofNat x)), none] [] m = runL e (dN e (d + 9)) 167 t 30 [some (.ref (ad 0)), some (.ref b0), some (.int (Int32.ofNat (n + 1))), none, none, none, none, none] [] m' := by
  obtain ⟨m1, g1, G1⟩ := wg_k (d := d) G (k := 25) (by omega) (by omega)
  obtain ⟨m2, g2, W2, F2⟩ := v_lists (e := e) (d := d + 6) G1.w
  have G2 := G1.cha F2 W2 WST_fr
  rw [w25] at G2
  refine ⟨m2, ⟨_, _, 0, _, G2.le (by omega) (by omega), ⟨_, rfl⟩, by decide, by omega, fun T c Z Rr B E => ln_list Z Rr B E, fun yr q => by rw [lists_0 G.w.ws.1]; exact q⟩, fun t => ?_⟩
  rw [q167_26, if_pos rfl, f_tx G.w, bd_s, G.t, g1, kR_r, g2, kV_r]
theorem h4 (G : WG e x0 b0 l0 N f a tx bb C SS l nb ad (WST e nb Y ad h s) m) {y : Nat} (hl : l.length ≤ 500) : ∃ m', HST e x0 b0 l0 N f a tx C SS l nb Y ad h s y m' ∧ ∀ t, runL e (dN e (d + 9)) 167 (t + 1) 27 [some (.ref (ad 0)), some (.ref b0), some (.int (Int32.ofNat (n + 1))), some (.int (Int32.ofNat 4)), none, none, some (.int (Int32.ofNat x)), none] [] m = runL e (dN e (d + 9)) 167 t 30 [some (.ref (ad 0)), some (.ref b0), some (.int (Int32.ofNat (n + 1))), none, none, none, none, none] [] m' := by
  obtain ⟨m1, g1, G1⟩ := wg_k (d := d) G (k := 26) (by omega) (by omega)
  obtain ⟨m2, g2, W2, F2⟩ := v_approves (e := e) (d := d + 6) G1.w
  have G2 := G1.cha F2 W2 WST_fr
  rw [w26] at G2
  refine ⟨m2, ⟨_, _, 0, _, G2.le (by omega) (by omega), ⟨_, rfl⟩, by decide, by omega, fun T c Z Rr B E => ln_apr Z Rr B E, fun yr q => by rw [apr_0]; exact q⟩, fun t => ?_⟩
  rw [q167_27, if_pos rfl, f_tx G.w, bd_s, G.t, g1, kR_r, g2, kI_r]
/-- again and again -/
theorem h5l (G : WG e x0 b0 l0 N f a tx bb C SS l nb ad (WST e nb Y ad h s) m) (x4 : x ≤ 4) (hY : Y ≤ 3000) : ∀ k, k ≤ x → ∃ m', WG e x0 b0 l0 N f a tx bb (C + k) (SS + 24 * k) l nb ad (WST e nb (Y + k) ad h (lpS h k s)) m' ∧ ∀ t, runL e (dN e (d + 9)) 167 (t + k) 29 [some (.ref (ad 0)), some (.ref b0), some (.int (Int32.ofNat (n + 1))), none, none, none, some (.int (Int32.ofNat x)), some (.int (Int32.ofNat 0))] [] m = runL e (dN e (d + 9)) 167 t 29 [some (.ref (ad 0)), some (.ref b0), some (.int (Int32.ofNat (n + 1))), none, none, none, some (.int (Int32.ofNat x)), some (.int (Int32.ofNat k))] [] m' := by
  intro k
  induction k with
  | zero => intro _; exact ⟨m, G, fun t => rfl⟩
  | succ k ih =>
    intro hk
    obtain ⟨m1, G1, r1⟩ := ih (by omega)
    obtain ⟨m2, g2, W2, F2⟩ := v_lists (e := e) (d := d + 6) G1.w
    have G2 := G1.cha F2 W2 WST_fr
    obtain ⟨m3, g3, W3, F3⟩ := v_years (e := e) (d := d + 6) G2.w (n := 1) (by omega) (by omega)
    have G3 := G2.cha F3 W3 WST_fr
    refine ⟨m3, ?_, fun t => ?_⟩
    · rw [lpS_s]
      exact G3.le (by omega) (by omega)
    · rw [show t + (k + 1) = (t + 1) + k by omega, r1, q167_29, if_pos (by rw [nLt (by omega) (by omega)]; omega), g2, kV_r, g3, kV_r, nAdd]
theorem lp_0 {yr : Nat} (W : WST e nb Y ad h s m) (h0 : s 0 = Int32.ofNat yr) (hW : ∀ k, k ≤ x → ∃ Y' m', WST e nb Y' ad h (lpS h k s) m') : ∀ k, k ≤ x → lpS h k s 0 = Int32.ofNat (yr + k) := by
  intro k
  induction k with
  | zero => intro _; exact h0
  | succ k ih =>
    intro hk
    obtain ⟨Y', m', W'⟩ := hW k (by omega)
    rw [lpS_s]
    exact yrs_0 (n := 1) (by rw [lists_0 W'.ws.1]; exact ih (by omega))
theorem h5 (G : WG e x0 b0 l0 N f a tx bb C SS l nb ad (WST e nb Y ad h s) m) {y : Nat} (x1 : 1 ≤ x) (x4 : x ≤ 4) (hl : l.length ≤ 500) (hY : Y ≤ 3000) (hy : y ≤ 400) : ∃ m', HST e x0 b0 l0 N f a tx C SS l nb Y ad h s y m' ∧ ∀ t, runL e (dN e (d + 9)) 167 (t + 6) 28 [some (.ref (ad 0)), some (.ref b0), some (.int (Int32.ofNat (n + 1))), none, none, none, some (.int (Int32.ofNat x)), none] [] m = runL e (dN e (d + 9)) 167 (t + 4 - x) 30 [some (.ref (ad 0)), some (.ref b0), some (.int (Int32.ofNat (n + 1))), none, none, none, none, none] [] m' := by
  have l27 : (wd 27).length = 8 := rfl
  have l28 : (wd 28).length = 13 := rfl
  have lx := dl1 (v := x) (by omega)
  obtain ⟨m1, g1, G1⟩ := wg_k (d := d) G (k := 27) (by omega) (by omega)
  obtain ⟨m2, g2, G2⟩ := wg_n (d := d) G1 (v := x) (by omega) (by rw [List.length_append]; omega)
  obtain ⟨m3, g3, G3⟩ := wg_k (d := d) G2 (k := 28) (by omega) (by simp only [List.length_append]; omega)
  have hk := h5l (d := d) (n := n) G3 x4 hY
  obtain ⟨m4, G4, r4⟩ := hk x (Nat.le_refl _)
  have e1 : l ++ wd 27 ++ dig x ++ wd 28 = l ++ (59 :: (wd 12 ++ 32 :: (dig x ++ 40 :: (wd 8 ++ 59 :: (wd 11 ++ 32 :: (dig 1 ++ [41])))))) := by
    rw [w27, w28]
    simp only [List.append_assoc, List.cons_append, List.nil_append]
  rw [e1] at G4
  refine ⟨m4, ⟨_, _, x, _, G4.le (by omega) (by omega), ⟨_, rfl⟩, ?_, x4, fun T c Z Rr B E => ln_rep Z Rr B x1 (by omega) (by omega), fun yr q => ?_⟩, fun t => ?_⟩
  · have l12 : (wd 12).length = 6 := rfl
    have l8 : (wd 8).length = 4 := rfl
    have l11 : (wd 11).length = 4 := rfl
    have ld : (dig 1).length = 1 := rfl
    simp only [List.length_append, List.length_cons, List.length_nil]
    omega
  · exact lp_0 (x := x) G.w q (fun k hk' => by
      obtain ⟨m', G', -⟩ := hk k hk'
      exact ⟨_, m', G'.w⟩) x (Nat.le_refl _)
  · have := r4 (t + 4 - x + 1)
    rw [q167_28, f_tx G.w, bd_s, G.t, g1, kR_r, g2, kR_r, g3, kR_r, show t + 5 = t + 4 - x + 1 + x by omega, this, q167_29, if_neg (by rw [nLt (by omega) (by omega)]; omega)]
end
/-- so many changes are told -/
def IHc (e : dEnv) (x0 b0 l0 N : Nat) (f : Nat → Int32) (tx w : Nat) (h : sV) (S P K R n0 C0 S0 nb j : Nat) (m : dMem) : Prop := ∃ a bb l ad s yr y, WG e x0 b0 l0 N f a tx bb (C0 + 5 * j) (S0 + 120 * j) l nb ad (WST e nb (2500 + y) ad h s) m ∧ ad 0 = w ∧ RNG h s S P K R yr ∧ PT l s h y (n0 + j) ∧ l.length ≤ 330 + 24 * j ∧ a ≤ 130 + 4 * j ∧ y ≤ 4 * j
section
variable {e : dEnv} {d x0 b0 l0 N tx w S P K R n0 C0 S0 nb j n : Nat} {f : Nat → Int32} {h : sV} {m : dMem}
theorem IHc_step (I : IHc e x0 b0 l0 N f tx w h S P K R n0 C0 S0 nb j m) (hb : 0 < nb) (hj : j < 5) (hn : n < 1000) (hn0 : n0 ≤ 100) : ∃ m', IHc e x0 b0 l0 N f tx w h S P K R n0 C0 S0 nb (j + 1) m' ∧ ∀ t, ∃ t', t ≤ t' ∧ runL e (dN e (d + 9)) 167 (t + 20) 23 [some (.ref w), some (.ref b0), some (.int (Int32.ofNat (n + 1))), none, none, none, none, none] [] m = runL e (dN e (d + 9)) 167 t' 23 [some (.ref w), some (.ref b0), some (.int (Int32.ofNat n)), none, none, none, none, none] [] m' := by
  obtain ⟨a, bb, l, ad, s, yr, y, G, hw, Q, PP, hl, ha, hy⟩ := I
  subst hw
  have nn := Q.nn
  have hns := G.w.nbs
  obtain ⟨m1, wh, b, r, x, q1, q2, q3, q4, q5, G1, r1⟩ := hBeg (d := d) G Q hb hns.2.1 (by omega) hn (by omega)
  have QQ := Q
  obtain ⟨T, s1, s2, p1, p2, k1, k2, u1, u2, y0, y1, y2⟩ := Q
  have yb : yr ≤ 2500 + y := by
    obtain ⟨yy, z1, z2, z3, z4⟩ := G.w.ws.1.2.2.1.ex
    omega
  have fin : ∀ {m'}, HST e x0 b0 l0 N f (a + 4) tx (C0 + 5 * j) (S0 + 120 * j) l nb (2500 + y) ad h s y m' → IHc e x0 b0 l0 N f tx (ad 0) h S P K R n0 C0 S0 nb (j + 1) m' := by
    intro m' H
    obtain ⟨bb', s', y', w, G', w1, w2, w3, w4, w5⟩ := H
    rw [Nat.add_assoc 2500 y y'] at G'
    refine ⟨_, bb', _, ad, s', yr + y', y + y', G'.le (by omega) (by omega), rfl, QQ.to (w5 yr y0) (by omega) (by omega), PT_line (n := n0 + j) PP (by omega) w1 w4, ?_, by omega, by omega⟩
    rw [List.length_append]
    omega
  have tail : ∀ {m'} t, runL e (dN e (d + 9)) 167 (t + 1) 30 [some (.ref (ad 0)), some (.ref b0), some (.int (Int32.ofNat (n + 1))), none, none, none, none, none] [] m' = runL e (dN e (d + 9)) 167 t 23 [some (.ref (ad 0)), some (.ref b0), some (.int (Int32.ofNat n)), none, none, none, none, none] [] m' := fun t => by rw [q167_30, nDec (by omega), Nat.add_sub_cancel]
  by_cases c0 : wh = 0
  · obtain ⟨m2, m3, m4, g2, g3, g4, H⟩ := h0 (d := d) G1 (y := y) q4 q5 (by omega) (by omega) (by omega)
    refine ⟨m4, fin H, fun t => ⟨t + 18, by omega, ?_⟩⟩
    rw [r1, if_pos (by rw [c0]), g2, kR_r, g3, kR_r, g4, kV_r, tail]
  · have r2 : ∀ t, runL e (dN e (d + 9)) 167 (t + 1) 23 [some (.ref (ad 0)), some (.ref b0), some (.int (Int32.ofNat (n + 1))), none, none, none, none, none] [] m = runL e (dN e (d + 9)) 167 t 24 [some (.ref (ad 0)), some (.ref b0), some (.int (Int32.ofNat (n + 1))), some (.int (Int32.ofNat wh)), some (.int (Int32.ofNat b)), some (.int (Int32.ofNat r)), some (.int (Int32.ofNat x)), none] [] m1 := fun t => by rw [r1, if_neg (by rw [nEq (by omega) (by omega)]; exact c0)]
    by_cases c1 : wh = 1 ∧ gonB s b = false
    · obtain ⟨c1, hg⟩ := c1
      subst c1
      obtain ⟨m2, H, g2⟩ := h1 (d := d) G1 (y := y) (x := x) q2 hns.2.1 hg y0 (by omega) q5 (by omega) hn (r := r)
      exact ⟨m2, fin H, fun t => ⟨t + 17, by omega, by rw [r2, g2, tail]⟩⟩
    · have r3 : ∀ t, runL e (dN e (d + 9)) 167 (t + 2) 23 [some (.ref (ad 0)), some (.ref b0), some (.int (Int32.ofNat (n + 1))), none, none, none, none, none] [] m = runL e (dN e (d + 9)) 167 t 25 [some (.ref (ad 0)), some (.ref b0), some (.int (Int32.ofNat (n + 1))), some (.int (Int32.ofNat wh)), some (.int (Int32.ofNat b)), some (.int (Int32.ofNat r)), some (.int (Int32.ofNat x)), none] [] m1 := fun t => by
        rw [r2, q167_24]
        by_cases z : wh = 1
        · have hg : gonB s b = true := by
            cases hgo : gonB s b with
            | true => rfl
            | false => exact absurd ⟨z, hgo⟩ c1
          have hgo := f_b10g G1.w q2
          rw [hg] at hgo
          rw [if_pos (by rw [z]), f_rbxs G1.w, bd_s, f_box G1.w q2 (by omega), bd_s, hgo, bd_s, if_neg (by decide +kernel)]
        · rw [if_neg (by rw [nEq (by omega) (by omega)]; exact z)]
      by_cases c2 : wh = 2 ∧ obsS s h (Int32.ofNat r) b = Int32.ofNat 0
      · obtain ⟨c2, ho⟩ := c2
        subst c2
        obtain ⟨m2, H, g2⟩ := h2 (d := d) G1 (y := y) (x := x) (r := r) q2 hns.2.1 q3 nn.2.2.2.1 (by omega) ho (by omega) hn
        exact ⟨m2, fin H, fun t => ⟨t + 16, by omega, by rw [r3, g2, tail]⟩⟩
      · have r4 : ∀ t, runL e (dN e (d + 9)) 167 (t + 3) 23 [some (.ref (ad 0)), some (.ref b0), some (.int (Int32.ofNat (n + 1))), none, none, none, none, none] [] m = runL e (dN e (d + 9)) 167 t 26 [some (.ref (ad 0)), some (.ref b0), some (.int (Int32.ofNat (n + 1))), some (.int (Int32.ofNat wh)), none, none, some (.int (Int32.ofNat x)), none] [] m1 := fun t => by
          rw [r3, q167_25]
          by_cases z : wh = 2
          · have ho : ¬ obsS s h (Int32.ofNat r) b = Int32.ofNat 0 := fun q => c2 ⟨z, q⟩
            have hba := v_bar (e := e) (d := d + 7) G1.w q2 (x := Int32.ofNat r)
            rw [if_pos (by rw [z]), hba, kI_r, if_neg ho]
          · rw [if_neg (by rw [nEq (by omega) (by omega)]; exact z)]
        by_cases c3 : wh = 3
        · subst c3
          obtain ⟨m2, H, g2⟩ := h3 (d := d) G1 (y := y) (x := x) (n := n) (by omega)
          exact ⟨m2, fin H, fun t => ⟨t + 15, by omega, by rw [r4, g2, tail]⟩⟩
        · have r5 : ∀ t, runL e (dN e (d + 9)) 167 (t + 4) 23 [some (.ref (ad 0)), some (.ref b0), some (.int (Int32.ofNat (n + 1))), none, none, none, none, none] [] m = runL e (dN e (d + 9)) 167 t 27 [some (.ref (ad 0)), some (.ref b0), some (.int (Int32.ofNat (n + 1))), some (.int (Int32.ofNat wh)), none, none, some (.int (Int32.ofNat x)), none] [] m1 := fun t => by
            rw [r4, q167_26, if_neg (by rw [nEq (by omega) (by omega)]; exact c3)]
          by_cases c4 : wh = 4
          · subst c4
            obtain ⟨m2, H, g2⟩ := h4 (d := d) G1 (y := y) (x := x) (n := n) (by omega)
            exact ⟨m2, fin H, fun t => ⟨t + 14, by omega, by rw [r5, g2, tail]⟩⟩
          · have r6 : ∀ t, runL e (dN e (d + 9)) 167 (t + 5) 23 [some (.ref (ad 0)), some (.ref b0), some (.int (Int32.ofNat (n + 1))), none, none, none, none, none] [] m = runL e (dN e (d + 9)) 167 t 28 [some (.ref (ad 0)), some (.ref b0), some (.int (Int32.ofNat (n + 1))), none, none, none, some (.int (Int32.ofNat x)), none] [] m1 := fun t => by
              rw [r5, q167_27, if_neg (by rw [nEq (by omega) (by omega)]; exact c4)]
            obtain ⟨m2, H, g2⟩ := h5 (d := d) (n := n) G1 (y := y) q4 q5 (by omega) (by omega) (by omega)
            exact ⟨m2, fin H, fun t => ⟨t + 9 + 3 - x, by omega, by rw [show t + 20 = t + 9 + 6 + 5 by omega, r6, g2, show t + 9 + 4 - x = t + 9 + 3 - x + 1 by omega, tail]⟩⟩
theorem chgs_t (hb : 0 < nb) (hn0 : n0 ≤ 100) : ∀ (n j : Nat) (m : dMem), IHc e x0 b0 l0 N f tx w h S P K R n0 C0 S0 nb j m → n + j ≤ 5 → ∃ m' j', j' ≤ 5 ∧ IHc e x0 b0 l0 N f tx w h S P K R n0 C0 S0 nb j' m' ∧ ∀ t, runL e (dN e (d + 9)) 167 (t + 20 * n + 2) 23 [some (.ref w), some (.ref b0), some (.int (Int32.ofNat n)), none, none, none, none, none] [] m = some (.inl none, m') := by
  intro n
  induction n with
  | zero =>
    intro j m I hj
    refine ⟨m, j, by omega, I, fun t => ?_⟩
    rw [q167_23, if_neg (by rw [nLt (by omega) (by omega)]; omega), q167_31]
  | succ n ih =>
    intro j m I hj
    obtain ⟨m1, I1, g1⟩ := IHc_step (d := d) I hb (by omega) (n := n) (by omega) hn0
    obtain ⟨m', j', a1, I', g2⟩ := ih (j + 1) m1 I1 (by omega)
    refine ⟨m', j', a1, I', fun t => ?_⟩
    obtain ⟨t1, b1, c1⟩ := g1 (t + 20 * n + 2)
    have := g2 (t1 - (20 * n + 2))
    rw [show t1 - (20 * n + 2) + 20 * n + 2 = t1 by omega] at this
    rw [show t + 20 * (n + 1) + 2 = t + 20 * n + 2 + 20 by omega, c1, this]
end
end

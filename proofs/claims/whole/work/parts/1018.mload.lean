/-! ===== the reference appends and loads (printed by wip/whole/ld.py) ===== -/
noncomputable section
theorem k20 : ∀ k : Nat, k < 20 → (Int32.ofNat 24) - (Int32.ofNat 8) * (Int32.ofNat k - Int32.ofNat k / (Int32.ofNat 4) * (Int32.ofNat 4)) = Int32.ofNat (24 - 8 * (k % 4)) := by decide +kernel
theorem mT_e {M : bX} (h : M.1 0 0 = Int32.ofNat 0) : mT M 0 = M := sF_e h
section
variable {e : dEnv} {d D b c x Y y : Nat} {T : dTok} {M : bX} {h s : sV} {m : dMem}
theorem st200 {cl : Nat → List Value → dMem → Option dRes} (g : Nat → Int32) {k : Nat} (hk : k < 20) (t : Nat) : ∃ w, t ≤ w ∧ runL e cl 200 (t + 6) 2 [some (.ref b), some (.int (g 0)), some (.int (g 1)), some (.int (g 2)), some (.int (g 3)), some (.int (g 4)), some (.int (Int32.ofNat k)), none] [] m = runL e cl 200 (w + 1) 7 [some (.ref b), some (.int (g 0)), some (.int (g 1)), some (.int (g 2)), some (.int (g 3)), some (.int (g 4)), some (.int (Int32.ofNat k)), none] [.int (g (k / 4))] m := by
  rw [q200_2, if_pos (by rw [nLt (by omega) (by omega)]; exact hk)]
  by_cases k4 : k < 4
  · rw [if_pos (by rw [nLt (by omega) (by omega)]; exact k4)]
    exact ⟨t + 4, by omega, by rw [show k / 4 = 0 by omega]⟩
  rw [if_neg (by rw [nLt (by omega) (by omega)]; exact k4), q200_3]
  by_cases k8 : k < 8
  · rw [if_pos (by rw [nLt (by omega) (by omega)]; exact k8)]
    exact ⟨t + 3, by omega, by rw [show k / 4 = 1 by omega]⟩
  rw [if_neg (by rw [nLt (by omega) (by omega)]; exact k8), q200_4]
  by_cases k12 : k < 12
  · rw [if_pos (by rw [nLt (by omega) (by omega)]; exact k12)]
    exact ⟨t + 2, by omega, by rw [show k / 4 = 2 by omega]⟩
  rw [if_neg (by rw [nLt (by omega) (by omega)]; exact k12), q200_5]
  by_cases k16 : k < 16
  · rw [if_pos (by rw [nLt (by omega) (by omega)]; exact k16)]
    exact ⟨t + 1, by omega, by rw [show k / 4 = 3 by omega]⟩
  rw [if_neg (by rw [nLt (by omega) (by omega)]; exact k16), q200_6]
  exact ⟨t, by omega, by rw [show k / 4 = 4 by omega]⟩
theorem lp200 {cl : Nat → List Value → dMem → Option dRes} (he : e.1 ≤ b) (g : Nat → Int32) {B : Nat → Nat} {h : Nat} (h6 : h + 20 ≤ 600) : ∀ (n k : Nat) (M : bX) (t : Nat), k + n = 20 → 6 * n + 6 ≤ t → M.1 0 8 = Int32.ofNat h → (∀ i, i < h + k → M.1 5 i = Int32.ofNat (apB B h g i)) → ∃ f u, 1 ≤ u ∧ runL e cl 200 t 2 [some (.ref b), some (.int (g 0)), some (.int (g 1)), some (.int (g 2)), some (.int (g 3)), some (.int (g 4)), some (.int (Int32.ofNat k)), none] [] (ov TM 8 b M m) = runL e cl 200 u 8 [some (.ref b), none, none, none, none, none, none, none] [] (ov TM 8 b (uA M 5 f) m) ∧ ∀ i, i < h + 20 → f i = Int32.ofNat (apB B h g i) := by
  intro n
  induction n with
  | zero =>
    intro k M t hk ht h8 hf
    obtain ⟨u, rfl⟩ : ∃ u, t = u + 2 := ⟨t - 2, by omega⟩
    have : k = 20 := by omega
    subst this
    refine ⟨M.1 5, u + 1, by omega, ?_, hf⟩
    rw [q200_2, if_neg (by decide +kernel), uA_self]
  | succ n ih =>
    intro k M t hk ht h8 hf
    obtain ⟨u, rfl⟩ : ∃ u, t = u + 6 := ⟨t - 6, by omega⟩
    obtain ⟨w, hw, g1⟩ := st200 (e := e) (b := b) (m := ov TM 8 b M m) (cl := cl) g (k := k) (by omega) u
    have hv : (g (k / 4) >>> ((((Int32.ofNat 24) - ((Int32.ofNat 8) * (Int32.ofNat k - Int32.ofNat k / (Int32.ofNat 4) * (Int32.ofNat 4))))) &&& 31)) &&& (Int32.ofNat 255) = Int32.ofNat (apB B h g (h + k)) := by
      unfold apB
      rw [k20 k (by omega), byt, if_neg (by omega), show h + k - h = k by omega]
      rfl
    rw [g1, q200_7, M_r0_7]
    (try simp only [bd_s])
    rw [M_g0_8, h8]
    (try simp only [bd_s])
    rw [nAdd, if_neg (by decide +kernel), hv, M_s5 he (by omega)]
    (try simp only [bd_s])
    rw [nAdd]
    obtain ⟨f, v, v1, g2, g3⟩ := ih (k + 1) (uA M 5 (wr (M.1 5) (h + k) (Int32.ofNat (apB B h g (h + k))))) w (by omega) (by omega) (by rw [uA_n (by omega)]; exact h8) (fun i hi => by
      rw [uA_s]
      by_cases q : i = h + k
      · rw [q, wr_s]
      · rw [wr_n q]
        exact hf i (by omega))
    rw [uA_uA] at g2
    exact ⟨f, v, v1, g2, g3⟩
theorem m200_f {h : Nat} (he : e.1 ≤ b) (h8 : M.1 0 8 = Int32.ofNat h) (h6 : h ≤ 600) (hf : 600 < h + 20) {y1 y2 y3 y4 y5 : Int32} : dN e (d + 1) 200 [.ref b, .int y1, .int y2, .int y3, .int y4, .int y5] (ov TM 8 b M m) = rI nM1 (ov TM 8 b (mT M 0) m) := by
  refine en200 M_c0 fun t ht => ?_
  obtain ⟨u, rfl⟩ := fu 9 ht rfl
  rw [q200_0, M_p0_0 he, mT_mk]
  (try simp only [bd_s])
  rw [M_g0_8, mT_0k (by omega), h8]
  (try simp only [bd_s])
  rw [nAdd, if_pos (by rw [nLt (by omega) (by omega)]; exact hf)]
theorem m200_0 {h : Nat} (he : e.1 ≤ b) (h8 : M.1 0 8 = Int32.ofNat h) (h6 : h + 20 ≤ 600) {B : Nat → Nat} (hB : ∀ i, i < h → M.1 5 i = Int32.ofNat (B i)) (g : Nat → Int32) : ∃ f, dN e (d + 1) 200 [.ref b, .int (g 0), .int (g 1), .int (g 2), .int (g 3), .int (g 4)] (ov TM 8 b M m) = rI (Int32.ofNat (h + 20)) (ov TM 8 b (sF (uA (mT M 0) 5 f) 8 (Int32.ofNat (h + 20))) m) ∧ ∀ i, i < h + 20 → f i = Int32.ofNat (apB B h g i) := by
  obtain ⟨f, v, v1, g2, g3⟩ := lp200 (e := e) (b := b) (m := m) (cl := dN e d) he g (B := B) h6 20 0 (mT M 0) (3999900 + 98) (by omega) (by omega) (by rw [mT_0k (by omega)]; exact h8) (fun i hi => by
    unfold apB
    rw [if_pos (by omega), mT_n (by omega)]
    exact hB i (by omega))
  refine ⟨f, ?_, g3⟩
  obtain ⟨u, rfl⟩ : ∃ u, v = u + 1 := ⟨v - 1, by omega⟩
  rw [dN_at (j := 200) (as := [.ref b, .int (g 0), .int (g 1), .int (g 2), .int (g 3), .int (g 4)]) (m := ov TM 8 b M m) (ls := [some (.ref b), some (.int (g 0)), some (.int (g 1)), some (.int (g 2)), some (.int (g 3)), some (.int (g 4)), none, none]) M_c0 rfl rfl rfl, dFu, q200_0, M_p0_0 he, mT_mk]
  (try simp only [bd_s])
  rw [M_g0_8, mT_0k (by omega), h8]
  (try simp only [bd_s])
  rw [nAdd, if_neg (by rw [nLt (by omega) (by omega)]; omega), q200_1, g2, q200_8, M_g0_8, uA_n (by omega), mT_0k (by omega), h8]
  (try simp only [bd_s])
  rw [nAdd, M_F8 he]
  (try simp only [bd_s])
  rw [M_g0_8, sF_s]
  rfl
theorem m201 (he : e.1 ≤ b) : dN e (d + 1) 201 [.ref b] (ov TM 8 b M m) = rI (M.1 0 8) (ov TM 8 b (mT M 0) m) := by
  refine en201 M_c0 fun t ht => ?_
  obtain ⟨u, rfl⟩ := fu 9 ht rfl
  rw [q201_0, M_p0_0 he, mT_mk]
  (try simp only [bd_s])
  rw [M_g0_8, mT_0k (by omega)]
  rfl
theorem m202 (he : e.1 ≤ b) : dN e (d + 1) 202 [.ref b] (ov TM 8 b M m) = rI (M.1 0 9) (ov TM 8 b (mT M 0) m) := by
  refine en202 M_c0 fun t ht => ?_
  obtain ⟨u, rfl⟩ := fu 9 ht rfl
  rw [q202_0, M_p0_0 he, mT_mk]
  (try simp only [bd_s])
  rw [M_g0_9, mT_0k (by omega)]
  rfl
theorem m203 (he : e.1 ≤ b) : dN e (d + 1) 203 [.ref b] (ov TM 8 b M m) = rI (M.1 0 10) (ov TM 8 b (mT M 0) m) := by
  refine en203 M_c0 fun t ht => ?_
  obtain ⟨u, rfl⟩ := fu 9 ht rfl
  rw [q203_0, M_p0_0 he, mT_mk]
  (try simp only [bd_s])
  rw [M_g0_10, mT_0k (by omega)]
  rfl
/-- a text is loaded -/
theorem m230_2 {h : Nat} (he : e.1 ≤ b) (h8 : M.1 0 8 = Int32.ofNat h) (h6 : h ≤ 600) {y : Int32} (hy : rngB 0 (h : Int) y = false) : dN e (d + 14) 230 [.ref b, .int y] (ov TM 8 b M m) = rI (Int32.ofNat 0) (ov TM 8 b (mT M 1) m) := by
  have g9 := c_rng (e := e) (d := d + 12) (m := ov TM 8 b (mT M 0) m) (x := y) (v := 0) (w := (Int32.ofNat h).toInt64)
  rw [Int32.toInt_toInt64, nToI (by omega), show (0 : Int64).toInt = 0 from by decide +kernel, hy] at g9
  refine en230 M_c0 fun t ht => ?_
  obtain ⟨u, rfl⟩ := fu 9 ht rfl
  rw [q230_0, M_p0_0 he, mT_mk]
  (try simp only [bd_s])
  rw [M_g0_8, mT_0k (by omega), h8]
  (try simp only [bd_s])
  rw [g9, kI_r, if_pos (by decide +kernel), q230_2, c_ref_t he (by omega) (by omega), kI_r, if_neg (by decide +kernel)]
theorem lp230_4 {cl : Nat → List Value → dMem → Option dRes} (he : e.1 ≤ b) {l1 : Int32} : ∀ (n k : Nat) (t : Nat), k + n = 118 → runL e cl 230 (t + n + 1) 4 [some (.ref b), some (.int l1), some (.int (Int32.ofNat k))] [] (ov TM 8 b (uA M 6 (dCp (M.1 1) (M.1 6) 0 0 k)) m) = runL e cl 230 t 5 [some (.ref b), some (.int l1), none] [] (ov TM 8 b (uA M 6 (dCp (M.1 1) (M.1 6) 0 0 118)) m) := by
  intro n
  induction n with
  | zero =>
    intro k t hk
    have : k = 118 := by omega
    subst this
    rw [q230_4, if_neg (by decide +kernel)]
  | succ n ih =>
    intro k t hk
    have e1 := dCp_s (M.1 1) (M.1 6) 0 0 k
    rw [Nat.zero_add] at e1
    rw [← Nat.add_assoc, q230_4, if_pos (by rw [nLt (by omega) (by omega)]; omega), M_r0_18]
    (try simp only [bd_s])
    rw [M_r0_2]
    (try simp only [bd_s])
    rw [M_a1 (by omega), uA_n (by omega)]
    (try simp only [bd_s])
    rw [M_s6 he (by omega), uA_s, uA_uA, e1]
    (try simp only [bd_s])
    rw [nAdd, ih (k + 1) t (by omega)]
theorem lp230_10 {cl : Nat → List Value → dMem → Option dRes} (he : e.1 ≤ b) : ∀ (n k : Nat) (t : Nat), k + n = 118 → runL e cl 230 (t + n + 1) 10 [some (.ref b), none, some (.int (Int32.ofNat k))] [] (ov TM 8 b (uA M 1 (dCp (M.1 6) (M.1 1) 0 0 k)) m) = runL e cl 230 t 11 [some (.ref b), none, none] [] (ov TM 8 b (uA M 1 (dCp (M.1 6) (M.1 1) 0 0 118)) m) := by
  intro n
  induction n with
  | zero =>
    intro k t hk
    have : k = 118 := by omega
    subst this
    rw [q230_10, if_neg (by decide +kernel)]
  | succ n ih =>
    intro k t hk
    have e1 := dCp_s (M.1 6) (M.1 1) 0 0 k
    rw [Nat.zero_add] at e1
    rw [← Nat.add_assoc, q230_10, if_pos (by rw [nLt (by omega) (by omega)]; omega), M_r0_2]
    (try simp only [bd_s])
    rw [M_r0_18]
    (try simp only [bd_s])
    rw [M_a6 (by omega), uA_n (by omega)]
    (try simp only [bd_s])
    rw [M_s1 he (by omega), uA_s, uA_uA, e1]
    (try simp only [bd_s])
    rw [nAdd, ih (k + 1) t (by omega)]
/-- loading's answer: an error in the text brings the rows back -/
def rdL (T : dTok) (b : Nat) (m : dMem) (M : bX) (run : Option dRes) (r : pRs) : Prop := match r with
  | .inl z => ∃ M', run = rI (Int32.ofNat 0) (ov TM 8 b M' m) ∧ M'.1 0 0 = Int32.ofNat 2 ∧ M'.1 0 8 = Int32.ofNat 0 ∧ M'.1 0 9 = Int32.ofNat z.1 ∧ M'.1 0 10 = Int32.ofNat (tPl T z.2) ∧ M'.1 0 1 = M.1 0 1 ∧ M'.1 0 5 = M.1 0 5 ∧ (∀ j, j < 118 → M'.1 1 j = M.1 1 j) ∧ (∀ j, j < 315 → M'.1 2 j = M.1 2 j) ∧ (∀ j, j < 3150 → M'.1 3 j = M.1 3 j) ∧ M'.1 4 = M.1 4 ∧ M'.1 7 = M.1 7 ∧ M'.1 0 21 = M.1 0 21
  | .inr st => ∃ M', run = rI (st.2.1 1) (ov TM 8 b M' m) ∧ M'.1 0 0 = Int32.ofNat 0 ∧ M'.1 0 8 = Int32.ofNat 0 ∧ M'.1 0 9 = Int32.ofNat 0 ∧ M'.1 0 10 = nM1 ∧ M'.1 0 1 = Int32.ofNat 1 ∧ M'.1 0 5 = Int32.ofNat 0 ∧ M'.1 1 = st.2.2.1 ∧ M'.1 2 = st.2.1 ∧ M'.1 4 0 = Int32.ofNat 0 ∧ M'.1 4 1 = Int32.ofNat 0 ∧ M'.1 7 = M.1 7 ∧ M'.1 0 21 = M.1 0 21 ∧ WS (2500 + st.2.2.2) st.2.2.1 st.2.1 ∧ WH st.2.2.1 ∧ st.2.2.2 ≤ 500
theorem m230 {len k : Nat} (he : e.1 ≤ b) (S : hSt e x m) (hx : x ≤ b) (h8 : M.1 0 8 = Int32.ofNat len) (h6 : len ≤ 600) (hk : k ≤ len) (hT : TOK T) (hE : tE T = k) (hB : ∀ j, j < k → M.1 5 j = Int32.ofNat (tB T j)) : rdL T b m M (dN e (d + 14) 230 [.ref b, .int (Int32.ofNat k)] (ov TM 8 b M m)) (textP T (M.1 2) (M.1 1)) := by
  have g9 := c_rng (e := e) (d := d + 12) (m := ov TM 8 b (mT M 0) m) (x := Int32.ofNat k) (v := 0) (w := (Int32.ofNat len).toInt64)
  have hr : rngB 0 (len : Int) (Int32.ofNat k) = true := by
    unfold rngB
    rw [nToI (by omega), decide_eq_true (by omega), decide_eq_true (by omega)]
    rfl
  rw [Int32.toInt_toInt64, nToI (by omega), show (0 : Int64).toInt = 0 from by decide +kernel, hr] at g9
  rw [dN_at (j := 230) (as := [.ref b, .int (Int32.ofNat k)]) (m := ov TM 8 b M m) (ls := [some (.ref b), some (.int (Int32.ofNat k)), none]) M_c0 rfl rfl rfl, dFu, q230_0, M_p0_0 he, mT_mk]
  (try simp only [bd_s])
  rw [M_g0_8, mT_0k (by omega), h8]
  (try simp only [bd_s])
  have g0 := c_asd (e := e) (d := d + 11) (b := b) (m := m) (M := M) he
  have L4 := lp230_4 (e := e) (b := b) (m := m) (M := asM M) (cl := dN e (d + 13)) he (l1 := Int32.ofNat k) 118 0 3999877 (by omega)
  rw [dCp_0, uA_self] at L4
  rw [g9, kI_r, if_neg (by decide +kernel), q230_1, q230_2, c_ref_f, kI_r, if_pos (by decide +kernel), q230_3, g0, kV_r, show 3999900 + 96 = 3999877 + 118 + 1 from rfl, L4]
  have a1 : (asM M).1 1 = M.1 1 := as_1
  have a2 : (asM M).1 2 = M.1 2 := as_2
  have p1 : (uA (asM M) 6 (dCp ((asM M).1 1) ((asM M).1 6) 0 0 118)).1 1 = M.1 1 := by rw [uA_n (by omega), a1]
  have p2 : (uA (asM M) 6 (dCp ((asM M).1 1) ((asM M).1 6) 0 0 118)).1 2 = M.1 2 := by rw [uA_n (by omega), a2]
  have p3 : (uA (asM M) 6 (dCp ((asM M).1 1) ((asM M).1 6) 0 0 118)).1 3 = dCp (M.1 2) (M.1 3) 0 3150 315 := by
    rw [uA_n (by omega)]
    unfold asM
    rw [uA_s]
  have p4 : (uA (asM M) 6 (dCp ((asM M).1 1) ((asM M).1 6) 0 0 118)).1 4 = M.1 4 := by
    rw [uA_n (by omega)]
    unfold asM
    rw [uA_n (by omega), mT_n (by omega)]
  have p5 : (uA (asM M) 6 (dCp ((asM M).1 1) ((asM M).1 6) 0 0 118)).1 5 = M.1 5 := by
    rw [uA_n (by omega)]
    unfold asM
    rw [uA_n (by omega), mT_n (by omega)]
  have p7 : (uA (asM M) 6 (dCp ((asM M).1 1) ((asM M).1 6) 0 0 118)).1 7 = M.1 7 := by
    rw [uA_n (by omega)]
    unfold asM
    rw [uA_n (by omega), mT_n (by omega)]
  have p6 : ∀ j, j < 118 → (uA (asM M) 6 (dCp ((asM M).1 1) ((asM M).1 6) 0 0 118)).1 6 j = M.1 1 j := by
    intro j hj
    rw [uA_s]
    unfold dCp
    rw [if_pos (by omega), a1, show 0 + (j - 0) = j by omega]
  have p0 : (uA (asM M) 6 (dCp ((asM M).1 1) ((asM M).1 6) 0 0 118)).1 0 0 = Int32.ofNat 0 := by
    rw [uA_n (by omega)]
    unfold asM
    rw [uA_n (by omega), mT_00]
  have pk : ∀ k, k ≠ 0 → (uA (asM M) 6 (dCp ((asM M).1 1) ((asM M).1 6) 0 0 118)).1 0 k = M.1 0 k := by
    intro k hk
    rw [uA_n (by omega)]
    unfold asM
    rw [uA_n (by omega), mT_0k hk]
  generalize uA (asM M) 6 (dCp ((asM M).1 1) ((asM M).1 6) 0 0 118) = M1 at p0 p1 p2 p3 p4 p5 p6 p7 pk ⊢
  rw [q230_5, M_F8 he]
  (try simp only [bd_s])
  rw [M_F11 he]
  (try simp only [bd_s])
  rw [M_F12 he]
  (try simp only [bd_s])
  rw [M_F16 he]
  (try simp only [bd_s])
  rw [M_F17 he]
  (try simp only [bd_s])
  have r8 : (sF (sF (sF (sF (sF M1 8 (Int32.ofNat 0)) 11 (Int32.ofNat k)) 12 (Int32.ofNat 0)) 16 (Int32.ofNat 0)) 17 nM1).1 0 8 = Int32.ofNat 0 := by rw [sF_n (by omega), sF_n (by omega), sF_n (by omega), sF_n (by omega), sF_s]
  have r11 : (sF (sF (sF (sF (sF M1 8 (Int32.ofNat 0)) 11 (Int32.ofNat k)) 12 (Int32.ofNat 0)) 16 (Int32.ofNat 0)) 17 nM1).1 0 11 = Int32.ofNat (tE T) := by rw [sF_n (by omega), sF_n (by omega), sF_n (by omega), sF_s, hE]
  have r12 : (sF (sF (sF (sF (sF M1 8 (Int32.ofNat 0)) 11 (Int32.ofNat k)) 12 (Int32.ofNat 0)) 16 (Int32.ofNat 0)) 17 nM1).1 0 12 = Int32.ofNat 0 := by rw [sF_n (by omega), sF_n (by omega), sF_s]
  have r16 : (sF (sF (sF (sF (sF M1 8 (Int32.ofNat 0)) 11 (Int32.ofNat k)) 12 (Int32.ofNat 0)) 16 (Int32.ofNat 0)) 17 nM1).1 0 16 = Int32.ofNat 0 := by rw [sF_n (by omega), sF_s]
  have r21 : (sF (sF (sF (sF (sF M1 8 (Int32.ofNat 0)) 11 (Int32.ofNat k)) 12 (Int32.ofNat 0)) 16 (Int32.ofNat 0)) 17 nM1).1 0 21 = M1.1 0 21 := by rw [sF_n (by omega), sF_n (by omega), sF_n (by omega), sF_n (by omega), sF_n (by omega)]
  have rk : ∀ k', k' < 8 → (sF (sF (sF (sF (sF M1 8 (Int32.ofNat 0)) 11 (Int32.ofNat k)) 12 (Int32.ofNat 0)) 16 (Int32.ofNat 0)) 17 nM1).1 0 k' = M1.1 0 k' := by
    intro k' hk'
    rw [sF_n (by omega), sF_n (by omega), sF_n (by omega), sF_n (by omega), sF_n (by omega)]
  have ri : ∀ i, i ≠ 0 → (sF (sF (sF (sF (sF M1 8 (Int32.ofNat 0)) 11 (Int32.ofNat k)) 12 (Int32.ofNat 0)) 16 (Int32.ofNat 0)) 17 nM1).1 i = M1.1 i := by
    intro i hi
    rw [sF_i hi, sF_i hi, sF_i hi, sF_i hi, sF_i hi]
  generalize sF (sF (sF (sF (sF M1 8 (Int32.ofNat 0)) 11 (Int32.ofNat k)) 12 (Int32.ofNat 0)) 16 (Int32.ofNat 0)) 17 nM1 = M2 at r8 r11 r12 r16 r21 rk ri ⊢
  have RT2 : RT T M2 := ⟨hT, r11, fun j hj => by
    rw [ri 5 (by omega), p5]
    exact hB j (by omega)⟩
  obtain ⟨M3, g3, R3, E3, b3⟩ := m207 (e := e) (d := d + 11) (m := m) he RT2 (c := 0) (by have := hT.1.1; omega) (GO_0 hT) r12
  have Z3 : RTc T M3 0 := ⟨RT2.e E3, R3, b3.trans r16⟩
  have L := r229 (e := e) (d := d) (m := m) he S hx Z3
  have t1 : M3.1 1 = M.1 1 := (E3.1 1 (by omega)).trans ((ri 1 (by omega)).trans p1)
  have t2 : M3.1 2 = M.1 2 := (E3.1 2 (by omega)).trans ((ri 2 (by omega)).trans p2)
  rw [t1, t2] at L
  rw [g3, kV_r]
  cases hr : textP T (M.1 2) (M.1 1) with
  | inl z =>
    rw [hr] at L
    obtain ⟨M4, g4, B4, F4⟩ := L
    have u3 : M4.1 3 = dCp (M.1 2) (M.1 3) 0 3150 315 := (F4.1 3 (by omega) (by omega) (by omega)).trans ((E3.1 3 (by omega)).trans ((ri 3 (by omega)).trans p3))
    have u4 : M4.1 4 = M.1 4 := (F4.1 4 (by omega) (by omega) (by omega)).trans ((E3.1 4 (by omega)).trans ((ri 4 (by omega)).trans p4))
    have u6 : ∀ j, j < 118 → M4.1 6 j = M.1 1 j := fun j hj => by rw [F4.1 6 (by omega) (by omega) (by omega), E3.1 6 (by omega), ri 6 (by omega), p6 j hj]
    have uk : ∀ k', k' < 8 → M4.1 0 k' = M1.1 0 k' := fun k' hk' => by rw [F4.2 k' (by omega) (by omega), E3.2 k' (by omega), rk k' hk']
    have u7 : M4.1 7 = M.1 7 := (F4.1 7 (by omega) (by omega) (by omega)).trans ((E3.1 7 (by omega)).trans ((ri 7 (by omega)).trans p7))
    have u21 : M4.1 0 21 = M.1 0 21 := by rw [F4.2 21 (by omega) (by omega), E3.2 21 (by omega), r21, pk 21 (by omega)]
    have u8 : M4.1 0 8 = Int32.ofNat 0 := by rw [F4.2 8 (by omega) (by omega), E3.2 8 (by omega), r8]
    obtain ⟨z1, z2, z3, z4⟩ := B4
    have z3n : ¬ Int32.ofNat z.1 = Int32.ofNat 0 := by rw [nEq (by omega) (by omega)]; omega
    rw [g4, kV_r, M_g0_16, z3]
    (try simp only [bd_s])
    rw [M_F9 he]
    (try simp only [bd_s])
    rw [M_g0_16, sF_n (by omega), z3]
    (try simp only [bd_s])
    rw [if_neg z3n, q230_6, M_g0_17, sF_n (by omega), z4]
    (try simp only [bd_s])
    rw [q230_7, M_F10 he]
    (try simp only [bd_s])
    rw [M_g0_16, sF_n (by omega), sF_n (by omega), z3]
    (try simp only [bd_s])
    rw [if_neg z3n, q230_9]
    have v0 : (sF (sF M4 9 (Int32.ofNat z.1)) 10 (Int32.ofNat (tPl T z.2))).1 0 0 = Int32.ofNat 0 := by rw [sF_n (by omega), sF_n (by omega), uk 0 (by omega), p0]
    have v9 : (sF (sF M4 9 (Int32.ofNat z.1)) 10 (Int32.ofNat (tPl T z.2))).1 0 9 = Int32.ofNat z.1 := by rw [sF_n (by omega), sF_s]
    have v10 : (sF (sF M4 9 (Int32.ofNat z.1)) 10 (Int32.ofNat (tPl T z.2))).1 0 10 = Int32.ofNat (tPl T z.2) := sF_s
    have v8 : (sF (sF M4 9 (Int32.ofNat z.1)) 10 (Int32.ofNat (tPl T z.2))).1 0 8 = Int32.ofNat 0 := by rw [sF_n (by omega), sF_n (by omega), u8]
    have v21 : (sF (sF M4 9 (Int32.ofNat z.1)) 10 (Int32.ofNat (tPl T z.2))).1 0 21 = M.1 0 21 := by rw [sF_n (by omega), sF_n (by omega), u21]
    have vk : ∀ k', k' < 8 → (sF (sF M4 9 (Int32.ofNat z.1)) 10 (Int32.ofNat (tPl T z.2))).1 0 k' = M1.1 0 k' := fun k' hk' => by rw [sF_n (by omega), sF_n (by omega), uk k' hk']
    have vi : ∀ i, i ≠ 0 → (sF (sF M4 9 (Int32.ofNat z.1)) 10 (Int32.ofNat (tPl T z.2))).1 i = M4.1 i := fun i hi => by rw [sF_i hi, sF_i hi]
    generalize sF (sF M4 9 (Int32.ofNat z.1)) 10 (Int32.ofNat (tPl T z.2)) = M5 at v0 v8 v9 v10 v21 vk vi ⊢
    have L10 := lp230_10 (e := e) (b := b) (m := m) (M := mT M5 2) (cl := dN e (d + 13)) he 118 0 3999754 (by omega)
    rw [dCp_0, uA_self] at L10
    have cr := c_ref_t (e := e) (d := d + 12) (m := m) (M := M5) he (c := 2) (by omega) (by omega)
    rw [mT_e v0] at cr
    rw [cr, kI_r, if_neg (by decide +kernel), show 3999873 = 3999754 + 118 + 1 from rfl, L10, q230_11, c_back he, kI_r]
    refine ⟨_, rfl, ?_, ?_, ?_, ?_, ?_, ?_, fun j hj => ?_, fun j hj => ?_, fun j hj => ?_, ?_, ?_, ?_⟩
    · rw [uA_n (by omega), uA_n (by omega), mT_00]
    · rw [uA_n (by omega), uA_n (by omega), mT_0k (by omega), v8]
    · rw [uA_n (by omega), uA_n (by omega), mT_0k (by omega), v9]
    · rw [uA_n (by omega), uA_n (by omega), mT_0k (by omega), v10]
    · rw [uA_n (by omega), uA_n (by omega), mT_0k (by omega), vk 1 (by omega), pk 1 (by omega)]
    · rw [uA_n (by omega), uA_n (by omega), mT_0k (by omega), vk 5 (by omega), pk 5 (by omega)]
    · rw [uA_n (by omega), uA_s]
      unfold dCp
      rw [if_pos (by omega), mT_n (by omega), vi 6 (by omega), show 0 + (j - 0) = j by omega, u6 j hj]
    · rw [uA_s, uA_n (by omega), mT_n (by omega), vi 3 (by omega), u3]
      unfold dCp
      rw [if_pos (by omega), if_pos (by omega), show 0 + (3150 + (j - 0) - 3150) = j by omega]
    · rw [uA_n (by omega), uA_n (by omega), mT_n (by omega), vi 3 (by omega), u3]
      unfold dCp
      rw [if_neg (by omega)]
    · rw [uA_n (by omega), uA_n (by omega), mT_n (by omega), vi 4 (by omega), u4]
    · rw [uA_n (by omega), uA_n (by omega), mT_n (by omega), vi 7 (by omega), u7]
    · rw [uA_n (by omega), uA_n (by omega), mT_0k (by omega), v21]
  | inr st =>
    rw [hr] at L
    obtain ⟨c4, s4, h4, y4⟩ := st
    obtain ⟨M4, g4, B4, F4⟩ := L
    have B4' : RS T M4 c4 s4 h4 y4 := B4
    obtain ⟨z1, z2, z3, z4, z5, z6, z7⟩ := B4'
    have uk : ∀ k', k' < 8 → M4.1 0 k' = M1.1 0 k' := fun k' hk' => by rw [F4.2 k' (by omega) (by omega), E3.2 k' (by omega), rk k' hk']
    have u7 : M4.1 7 = M.1 7 := (F4.1 7 (by omega) (by omega) (by omega)).trans ((E3.1 7 (by omega)).trans ((ri 7 (by omega)).trans p7))
    have u21 : M4.1 0 21 = M.1 0 21 := by rw [F4.2 21 (by omega) (by omega), E3.2 21 (by omega), r21, pk 21 (by omega)]
    have u8 : M4.1 0 8 = Int32.ofNat 0 := by rw [F4.2 8 (by omega) (by omega), E3.2 8 (by omega), r8]
    rw [g4, kV_r, M_g0_16, z1.2.2]
    (try simp only [bd_s])
    rw [M_F9 he]
    (try simp only [bd_s])
    rw [M_g0_16, sF_n (by omega), z1.2.2]
    (try simp only [bd_s])
    rw [if_pos (by trivial), q230_7, M_F10 he]
    (try simp only [bd_s])
    rw [M_g0_16, sF_n (by omega), sF_n (by omega), z1.2.2]
    (try simp only [bd_s])
    have v0 : (sF (sF M4 9 (Int32.ofNat 0)) 10 nM1).1 0 0 = Int32.ofNat 0 := by rw [sF_n (by omega), sF_n (by omega), uk 0 (by omega), p0]
    have v9 : (sF (sF M4 9 (Int32.ofNat 0)) 10 nM1).1 0 9 = Int32.ofNat 0 := by rw [sF_n (by omega), sF_s]
    have v10 : (sF (sF M4 9 (Int32.ofNat 0)) 10 nM1).1 0 10 = nM1 := sF_s
    have v8 : (sF (sF M4 9 (Int32.ofNat 0)) 10 nM1).1 0 8 = Int32.ofNat 0 := by rw [sF_n (by omega), sF_n (by omega), u8]
    have v21 : (sF (sF M4 9 (Int32.ofNat 0)) 10 nM1).1 0 21 = M.1 0 21 := by rw [sF_n (by omega), sF_n (by omega), u21]
    have vi : ∀ i, i ≠ 0 → (sF (sF M4 9 (Int32.ofNat 0)) 10 nM1).1 i = M4.1 i := fun i hi => by rw [sF_i hi, sF_i hi]
    generalize sF (sF M4 9 (Int32.ofNat 0)) 10 nM1 = M5 at v0 v8 v9 v10 v21 vi ⊢
    have cr := c_ref_f (e := e) (d := d + 12) (m := m) (b := b) (M := M5) (c := Int32.ofNat 2)
    rw [mT_e v0] at cr
    rw [if_pos (by trivial), q230_8, q230_9, cr, kI_r, if_pos (by decide +kernel), q230_12, M_p0_1 he]
    (try simp only [bd_s])
    rw [M_p0_5 he]
    (try simp only [bd_s])
    rw [M_r0_6]
    (try simp only [bd_s])
    rw [M_s4 he (by omega)]
    (try simp only [bd_s])
    rw [M_r0_6]
    (try simp only [bd_s])
    rw [M_s4 he (by omega)]
    (try simp only [bd_s])
    rw [M_r0_3]
    (try simp only [bd_s])
    rw [M_a2 (by omega)]
    (try simp only [bd_s])
    have key : ∀ (v : Int32) (X : bX), v = s4 1 → X.1 0 0 = Int32.ofNat 0 → X.1 0 8 = Int32.ofNat 0 → X.1 0 9 = Int32.ofNat 0 → X.1 0 10 = nM1 → X.1 0 1 = Int32.ofNat 1 → X.1 0 5 = Int32.ofNat 0 → X.1 1 = h4 → X.1 2 = s4 → X.1 4 0 = Int32.ofNat 0 → X.1 4 1 = Int32.ofNat 0 → X.1 7 = M.1 7 → X.1 0 21 = M.1 0 21 → rdL T b m M (rI v (ov TM 8 b X m)) (.inr (c4, s4, h4, y4)) := fun v X k0 k1 k2 k3 k4 k5 k6 k7 k8 k9 k10 k11 k12 => ⟨X, by rw [k0], k1, k2, k3, k4, k5, k6, k7, k8, k9, k10, k11, k12, z5, z6, z7⟩
    refine key _ _ ?_ ?_ ?_ ?_ ?_ ?_ ?_ ?_ ?_ ?_ ?_ ?_ ?_
    · rw [uA_n (by omega), uA_n (by omega), uA_n (by omega), uA_n (by omega), vi 2 (by omega), z4]
    · rw [uA_n (by omega), uA_n (by omega), uA_s, wr_n (by omega), uA_s, wr_n (by omega), v0]
    · rw [uA_n (by omega), uA_n (by omega), uA_s, wr_n (by omega), uA_s, wr_n (by omega), v8]
    · rw [uA_n (by omega), uA_n (by omega), uA_s, wr_n (by omega), uA_s, wr_n (by omega), v9]
    · rw [uA_n (by omega), uA_n (by omega), uA_s, wr_n (by omega), uA_s, wr_n (by omega), v10]
    · rw [uA_n (by omega), uA_n (by omega), uA_s, wr_n (by omega), uA_s, wr_s]
    · rw [uA_n (by omega), uA_n (by omega), uA_s, wr_s]
    · rw [uA_n (by omega), uA_n (by omega), uA_n (by omega), uA_n (by omega), vi 1 (by omega), z3]
    · rw [uA_n (by omega), uA_n (by omega), uA_n (by omega), uA_n (by omega), vi 2 (by omega), z4]
    · rw [uA_s, wr_n (by omega), uA_s, wr_s]; decide +kernel
    · rw [uA_s, wr_s]; decide +kernel
    · rw [uA_n (by omega), uA_n (by omega), uA_n (by omega), uA_n (by omega), vi 7 (by omega), u7]
    · rw [uA_n (by omega), uA_n (by omega), uA_s, wr_n (by omega), uA_s, wr_n (by omega), v21]
end
end

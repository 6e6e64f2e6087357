/-! ===== classes and readers are told (printed by wip/p67/wg2.py) ===== -/
noncomputable section
theorem dl1 {v : Nat} (h : v < 10) : (dig v).length ≤ 1 := by
  rw [dig_n (by omega)]
  unfold dgN
  rw [if_pos h]
  exact Nat.le_refl _
theorem dl2 {v : Nat} (h : v < 100) : (dig v).length ≤ 2 := by
  rw [dig_n (by omega)]
  unfold dgN
  repeat' split
  all_goals omega
theorem dl4 {v : Nat} (h : v < 10000) : (dig v).length ≤ 4 := by
  rw [dig_n (by omega)]
  unfold dgN
  repeat' split
  all_goals omega
theorem w16 : wd 16 = 59 :: (wd 1 ++ [32]) := rfl
theorem w17 : wd 17 = 32 :: wd 13 := rfl
theorem w18 : wd 18 = [] := rfl
theorem w19 : wd 19 = 59 :: (wd 3 ++ [32]) := rfl
def XF (X : wX) (S P K R yr : Nat) : Prop := X 0 1 = Int32.ofNat S ∧ X 0 2 = Int32.ofNat P ∧ X 0 3 = Int32.ofNat K ∧ X 0 4 = Int32.ofNat R ∧ X 0 11 = Int32.ofNat yr ∧ X 0 12 = Int32.ofNat 0 ∧ X 0 13 = Int32.ofNat 0
theorem XF.u {X : wX} {S P K R yr i : Nat} {g : sV} (Z : XF X S P K R yr) (hi : i ≠ 0) : XF (uX X i g) S P K R yr := by
  unfold XF
  rw [uX_n (fun q => hi q.symm)]
  exact Z
section
variable {e : dEnv} {d x0 b0 l0 N a tx C C0 S0 SS nb S P K R yr k : Nat} {f : Nat → Int32} {bb : xB} {l : List Nat} {ad : Nat → Nat} {X : wX} {h : sV} {m : dMem}
theorem cA (G : WG e x0 b0 l0 N f a tx bb C SS l 0 ad (W1 e ad X) m) (hK : X 0 3 = Int32.ofNat K) (hk : k < K) (hK3 : K ≤ 3) (ha : a ≤ 1000) : ∃ m1 hp, 1 ≤ hp ∧ hp ≤ 50 ∧ WG e x0 b0 l0 N f (a + 1) tx bb C SS l 0 ad (W1 e ad X) m1 ∧ ∀ t, ∃ t', t ≤ t' ∧ runL e (dN e (d + 9)) 167 (t + 2) 5 [some (.ref (ad 0)), some (.ref b0), some (.int (Int32.ofNat k)), none, none, none, none, none] [] m = runL e (dN e (d + 9)) 167 t' 7 [some (.ref (ad 0)), some (.ref b0), some (.int (Int32.ofNat k)), none, none, none, none, none] [.int (Int32.ofNat hp), .int (Int32.ofNat 1), .ref b0, .int (Int32.ofNat k), .ref (ad 1)] m1 := by
  obtain ⟨v1, m1, g1, -, v2, G1⟩ := wg_draw (d := d) G (lo := 0) (hi := 1) (by omega) (by omega) (by omega)
  by_cases q : v1 = 0
  · refine ⟨m1, 50, by omega, by omega, G1, fun t => ⟨t + 1, by omega, ?_⟩⟩
    rw [q167_5, W1_g G.w (k := 3) rfl, bd_s, hK, if_pos (by rw [nLt (by omega) (by omega)]; exact hk), W1_r G.w (k := 5) (q := 1) rfl, bd_s, g1, kI_r, q, if_pos rfl]
  · refine ⟨m1, 4, by omega, by omega, G1, fun t => ⟨t, Nat.le_refl _, ?_⟩⟩
    rw [q167_5, W1_g G.w (k := 3) rfl, bd_s, hK, if_pos (by rw [nLt (by omega) (by omega)]; exact hk), W1_r G.w (k := 5) (q := 1) rfl, bd_s, g1, kI_r, if_neg (by rw [nEq (by omega) (by omega)]; exact q), q167_6]
theorem cB (G : WG e x0 b0 l0 N f a tx bb C SS l 0 ad (W1 e ad X) m) {hp : Nat} (hk3 : k < 3) (h1 : 1 ≤ hp) (h2 : hp ≤ 50) (ha : a ≤ 1000) : ∃ m1 p hq, 1 ≤ p ∧ p ≤ 50 ∧ hq ≤ 50 ∧ WG e x0 b0 l0 N f (a + 2) tx bb C SS l 0 ad (W1 e ad (uX X 1 (wr (X 1) k (Int32.ofNat p)))) m1 ∧ ∀ t, ∃ t', t ≤ t' ∧ runL e (dN e (d + 9)) 167 (t + 2) 7 [some (.ref (ad 0)), some (.ref b0), some (.int (Int32.ofNat k)), none, none, none, none, none] [.int (Int32.ofNat hp), .int (Int32.ofNat 1), .ref b0, .int (Int32.ofNat k), .ref (ad 1)] m = runL e (dN e (d + 9)) 167 t' 9 [some (.ref (ad 0)), some (.ref b0), some (.int (Int32.ofNat k)), none, none, none, none, none] [.int (Int32.ofNat hq), .int (Int32.ofNat 0), .ref b0, .int (Int32.ofNat k), .ref (ad 2)] m1 := by
  obtain ⟨p, m1, g1, p1, p2, G1⟩ := wg_draw (d := d) G (lo := 1) (hi := hp) (by omega) (by omega) (by omega)
  obtain ⟨m2, g2, W2, F2⟩ := W1_s (x := Int32.ofNat p) G1.w (i := 1) (kd := 0) (n := 8) (j := k) (by omega) rfl rfl (by omega) rfl (by omega) (by omega) rfl
  have G2 : WG e x0 b0 l0 N f (a + 1) tx bb C SS l 0 ad (W1 e ad (uX X 1 (wr (X 1) k (Int32.ofNat p)))) m2 := G1.cha F2 W2 W1_fr
  obtain ⟨v1, m3, g3, -, v2, G3⟩ := wg_draw (d := d) G2 (lo := 0) (hi := 1) (by omega) (by omega) (by omega)
  by_cases q : v1 = 0
  · refine ⟨m3, p, 50, p1, by omega, by omega, G3, fun t => ⟨t + 1, by omega, ?_⟩⟩
    rw [q167_7, g1, kI_r, g2, bd_s, W1_r G2.w (k := 6) (q := 2) rfl, bd_s, g3, kI_r, q, if_pos rfl]
  · refine ⟨m3, p, 2, p1, by omega, by omega, G3, fun t => ⟨t, Nat.le_refl _, ?_⟩⟩
    rw [q167_7, g1, kI_r, g2, bd_s, W1_r G2.w (k := 6) (q := 2) rfl, bd_s, g3, kI_r, if_neg (by rw [nEq (by omega) (by omega)]; exact q), q167_8]
theorem cC (G : WG e x0 b0 l0 N f a tx bb C SS l 0 ad (W1 e ad X) m) {hq : Nat} (hk3 : k < 3) (h2 : hq ≤ 50) (ha : a ≤ 1000) : ∃ m1 p fl, p ≤ 50 ∧ fl ≤ 1 ∧ WG e x0 b0 l0 N f (a + 2) tx bb C SS l 0 ad (W1 e ad (uX X 2 (wr (X 2) k (Int32.ofNat p)))) m1 ∧ ∀ t, ∃ t', t ≤ t' ∧ runL e (dN e (d + 9)) 167 (t + 2) 9 [some (.ref (ad 0)), some (.ref b0), some (.int (Int32.ofNat k)), none, none, none, none, none] [.int (Int32.ofNat hq), .int (Int32.ofNat 0), .ref b0, .int (Int32.ofNat k), .ref (ad 2)] m = runL e (dN e (d + 9)) 167 t' 11 [some (.ref (ad 0)), some (.ref b0), some (.int (Int32.ofNat k)), none, none, none, none, none] [.int (Int32.ofNat fl), .int (Int32.ofNat k), .ref (ad 4)] m1 := by
  obtain ⟨p, m1, g1, p1, p2, G1⟩ := wg_draw (d := d) G (lo := 0) (hi := hq) (by omega) (by omega) (by omega)
  obtain ⟨m2, g2, W2, F2⟩ := W1_s (x := Int32.ofNat p) G1.w (i := 2) (kd := 0) (n := 8) (j := k) (by omega) rfl rfl (by omega) rfl (by omega) (by omega) rfl
  have G2 : WG e x0 b0 l0 N f (a + 1) tx bb C SS l 0 ad (W1 e ad (uX X 2 (wr (X 2) k (Int32.ofNat p)))) m2 := G1.cha F2 W2 W1_fr
  obtain ⟨v1, m3, g3, -, v2, G3⟩ := wg_draw (d := d) G2 (lo := 0) (hi := 3) (by omega) (by omega) (by omega)
  by_cases q : v1 = 0
  · refine ⟨m3, p, 1, by omega, by omega, G3, fun t => ⟨t + 1, by omega, ?_⟩⟩
    rw [q167_9, g1, kI_r, g2, bd_s, W1_r G2.w (k := 8) (q := 4) rfl, bd_s, g3, kI_r, q, if_pos rfl]
  · refine ⟨m3, p, 0, by omega, by omega, G3, fun t => ⟨t, Nat.le_refl _, ?_⟩⟩
    rw [q167_9, g1, kI_r, g2, bd_s, W1_r G2.w (k := 8) (q := 4) rfl, bd_s, g3, kI_r, if_neg (by rw [nEq (by omega) (by omega)]; exact q), q167_10]
theorem cD (G : WG e x0 b0 l0 N f a tx bb C SS l 0 ad (W1 e ad X) m) {p q fl : Nat} (hp : X 1 k = Int32.ofNat p) (hq : X 2 k = Int32.ofNat q) (hk3 : k < 3) (p2 : p ≤ 50) (q2 : q ≤ 50) (hf : fl ≤ 1) (hl : l.length ≤ 300) : ∃ m1 bb', WG e x0 b0 l0 N f a tx bb' (C + 8) (SS + 700) (l ++ (wd 16 ++ kN k ++ [32] ++ dig p ++ [32] ++ dig q ++ (if fl = 0 then wd 18 else wd 17))) 0 ad (W1 e ad (uX X 4 (wr (X 4) k (Int32.ofNat fl)))) m1 ∧ ∀ t, ∃ t', t ≤ t' ∧ runL e (dN e (d + 9)) 167 (t + 3) 11 [some (.ref (ad 0)), some (.ref b0), some (.int (Int32.ofNat k)), none, none, none, none, none] [.int (Int32.ofNat fl), .int (Int32.ofNat k), .ref (ad 4)] m = runL e (dN e (d + 9)) 167 t' 5 [some (.ref (ad 0)), some (.ref b0), some (.int (Int32.ofNat (k + 1))), none, none, none, none, none] [] m1 := by
  have hc : cvI 4 (Int32.ofNat fl) = Int32.ofNat fl := by
    have h01 : fl = 0 ∨ fl = 1 := by omega
    rcases h01 with z | z <;> subst z <;> decide +kernel
  obtain ⟨m1, g1, Wa, F1⟩ := W1_s (x := Int32.ofNat fl) G.w (i := 4) (kd := 4) (n := 8) (j := k) (by omega) rfl rfl (by omega) rfl (by omega) (by omega) hc
  have G1 : WG e x0 b0 l0 N f a tx bb C SS l 0 ad (W1 e ad (uX X 4 (wr (X 4) k (Int32.ofNat fl)))) m1 := G.cha F1 Wa W1_fr
  have ln := fun v (hv : v ≤ 50) => dl2 (v := v) (by omega)
  have lk := (nm_ok k hk3).1.2.2
  have l16 : (wd 16).length = 7 := rfl
  obtain ⟨m2, g2, G2⟩ := wg_k (d := d) G1 (k := 16) (by omega) (by omega)
  obtain ⟨r, m3, m4, bb', g3, g4, G4⟩ := wg_kind (d := d) G2 (k := k) (by omega) (by rw [List.length_append]; omega)
  obtain ⟨m5, g5, G5⟩ := wg_c (d := d) G4 (v := 32) (by omega) (by simp only [List.length_append]; omega)
  obtain ⟨m6, g6, G6⟩ := wg_n (d := d) G5 (v := p) (by omega) (by simp only [List.length_append, List.length_cons, List.length_nil]; omega)
  have lp := ln p p2
  have lq := ln q q2
  obtain ⟨m7, g7, G7⟩ := wg_c (d := d) G6 (v := 32) (by omega) (by simp only [List.length_append, List.length_cons, List.length_nil]; omega)
  obtain ⟨m8, g8, G8⟩ := wg_n (d := d) G7 (v := q) (by omega) (by simp only [List.length_append, List.length_cons, List.length_nil]; omega)
  have a1 : aI m5 0 (ad 1) (Int32.ofNat k) = some (Int32.ofNat p) := by
    have := W1_a G5.w (i := 1) (kd := 0) (n := 8) (j := k) (by omega) rfl rfl (by omega) rfl (by omega) (by omega)
    rw [this, uX_n (by omega), hp]
  have a2 : aI m7 0 (ad 2) (Int32.ofNat k) = some (Int32.ofNat q) := by
    have := W1_a G7.w (i := 2) (kd := 0) (n := 8) (j := k) (by omega) rfl rfl (by omega) rfl (by omega) (by omega)
    rw [this, uX_n (by omega), hq]
  have a4 : aI m8 4 (ad 4) (Int32.ofNat k) = some (Int32.ofNat fl) := by
    have := W1_a G8.w (i := 4) (kd := 4) (n := 8) (j := k) (by omega) rfl rfl (by omega) rfl (by omega) (by omega)
    rw [this, uX_s, wr_s]
  have tr : gR m1 (ad 0) 12 0 = some tx := by rw [W1_r G1.w (k := 0) (q := 1000) rfl, G.t]
  have run : ∀ t, runL e (dN e (d + 9)) 167 (t + 1) 11 [some (.ref (ad 0)), some (.ref b0), some (.int (Int32.ofNat k)), none, none, none, none, none] [.int (Int32.ofNat fl), .int (Int32.ofNat k), .ref (ad 4)] m = (if Int32.ofNat fl = Int32.ofNat 0 then runL e (dN e (d + 9)) 167 t 12 [some (.ref (ad 0)), some (.ref b0), some (.int (Int32.ofNat k)), none, none, none, none, none] [.ref tx] m8 else runL e (dN e (d + 9)) 167 t 13 [some (.ref (ad 0)), some (.ref b0), some (.int (Int32.ofNat k)), none, none, none, none, none] [.ref (e.2 17), .ref tx] m8) := by
    intro t
    rw [q167_11, g1, bd_s, tr, bd_s, g2, kR_r, g3, kR_r, g4, kR_r, g5, kR_r, W1_r G5.w (k := 5) (q := 1) rfl, bd_s, a1, bd_s, g6, kR_r, g7, kR_r, W1_r G7.w (k := 6) (q := 2) rfl, bd_s, a2, bd_s, g8, kR_r, W1_r G8.w (k := 8) (q := 4) rfl, bd_s, a4, bd_s]
  have hlen : (l ++ wd 16 ++ kN k ++ [32] ++ dig p ++ [32] ++ dig q).length ≤ 780 := by simp only [List.length_append, List.length_cons, List.length_nil]; omega
  by_cases z : fl = 0
  · obtain ⟨m9, g9, G9⟩ := wg_k (d := d) G8 (k := 18) (by omega) hlen
    refine ⟨m9, bb', ?_, fun t => ⟨t, Nat.le_refl _, ?_⟩⟩
    · rw [if_pos z]
      simpa only [List.append_assoc] using G9
    · rw [run, if_pos (by rw [z]), q167_12, q167_13, g9, kR_r, nAdd]
  · obtain ⟨m9, g9, G9⟩ := wg_k (d := d) G8 (k := 17) (by omega) hlen
    refine ⟨m9, bb', ?_, fun t => ⟨t + 1, by omega, ?_⟩⟩
    · rw [if_neg z]
      simpa only [List.append_assoc] using G9
    · rw [run, if_neg (by rw [nEq (by omega) (by omega)]; exact z), q167_13, g9, kR_r, nAdd]
def IC (e : dEnv) (x0 b0 l0 N : Nat) (f : Nat → Int32) (tx : Nat) (ad : Nat → Nat) (S P K R yr C0 S0 k : Nat) (m : dMem) : Prop := ∃ a bb l h X, WG e x0 b0 l0 N f a tx bb (C0 + 8 * k) (S0 + 700 * k) l 0 ad (W1 e ad X) m ∧ XF X S P K R yr ∧ TLD h S P k 0 ∧ (∀ c, c < k → X 1 c = h (94 + c) ∧ X 2 c = h (102 + c) ∧ X 4 c = h (110 + c)) ∧ PT l (wr zS 0 (Int32.ofNat yr)) h 0 k ∧ l.length ≤ 17 + 27 * k ∧ a ≤ 20 + 6 * k
theorem IC_step (I : IC e x0 b0 l0 N f tx ad S P K R yr C0 S0 k m) (hk : k < K) (hK : K ≤ 3) : ∃ m', IC e x0 b0 l0 N f tx ad S P K R yr C0 S0 (k + 1) m' ∧ ∀ t, ∃ t', t ≤ t' ∧ runL e (dN e (d + 9)) 167 (t + 9) 5 [some (.ref (ad 0)), some (.ref b0), some (.int (Int32.ofNat k)), none, none, none, none, none] [] m = runL e (dN e (d + 9)) 167 t' 5 [some (.ref (ad 0)), some (.ref b0), some (.int (Int32.ofNat (k + 1))), none, none, none, none, none] [] m' := by
  obtain ⟨a, bb, l, h, X, G, XX, TT, rows, PP, hl, ha⟩ := I
  obtain ⟨m1, hp, hp1, hp2, G1, r1⟩ := cA (d := d) G XX.2.2.1 hk hK (by omega)
  obtain ⟨m2, p, hq, p1, p2, hq2, G2, r2⟩ := cB (d := d) G1 (k := k) (by omega) hp1 hp2 (by omega)
  obtain ⟨m3, q, fl, q2, f2, G3, r3⟩ := cC (d := d) G2 (k := k) (by omega) hq2 (by omega)
  obtain ⟨m4, bb', G4, r4⟩ := cD (d := d) G3 (k := k) (p := p) (q := q) (by rw [uX_n (by omega), uX_s, wr_s]) (by rw [uX_s, wr_s]) (by omega) p2 q2 f2 (by omega)
  obtain ⟨T1, T2, T3, T4, T5⟩ := TLD_c TT (p := p) (q := q) (f := fl) (by omega) (by omega) p1 p2 q2 f2
  have hh2 : nN (h 2) = k := by rw [TT.2.2.2.1]; exact nN_o (by omega)
  have lk := (nm_ok k (by omega)).1
  have lp := dl2 (v := p) (by omega)
  have lq := dl2 (v := q) (by omega)
  have l16 : (wd 16).length = 7 := rfl
  have l17 : (wd 17).length = 8 := rfl
  have l18 : (wd 18).length = 0 := rfl
  have nd : ∀ c, c < nN (h 2) → ∃ i, i < 6 ∧ h (46 + 6 * c + i) ≠ nmE (kN k) i := fun c hc => by
    rw [hh2] at hc
    obtain ⟨i, i1, i2⟩ := kN_ne k (by omega) c hc
    exact ⟨i, i1, by rw [TT.2.2.2.2.2.1 c hc i i1]; exact i2⟩
  refine ⟨m4, ⟨_, bb', _, clsE (kN k) h p q fl, _, G4.le (by omega) (by omega), ((XX.u (by omega)).u (by omega)).u (by omega), T1, fun c hc => ?_, ?_, ?_, by omega⟩, fun t => ?_⟩
  · rcases Nat.lt_or_ge c k with y | y
    · obtain ⟨y1, y2, y3⟩ := T2 c y
      obtain ⟨z1, z2, z3⟩ := rows c y
      rw [y1, y2, y3]
      refine ⟨?_, ?_, ?_⟩
      · rw [uX_n (by omega), uX_n (by omega), uX_s, wr_n (by omega)]; exact z1
      · rw [uX_n (by omega), uX_s, wr_n (by omega), uX_n (by omega)]; exact z2
      · rw [uX_s, wr_n (by omega), uX_n (by omega), uX_n (by omega)]; exact z3
    · have hck : c = k := by omega
      subst hck
      rw [T3, T4, T5]
      refine ⟨?_, ?_, ?_⟩
      · rw [uX_n (by omega), uX_n (by omega), uX_s, wr_s]
      · rw [uX_n (by omega), uX_s, wr_s]
      · rw [uX_s, wr_s]
  · by_cases z : fl = 0
    · subst z
      rw [if_pos rfl]
      have e1 : wd 16 ++ kN k ++ [32] ++ dig p ++ [32] ++ dig q ++ wd 18 = 59 :: (wd 1 ++ 32 :: (kN k ++ 32 :: (dig p ++ 32 :: dig q))) := by
        rw [w16, w18]
        simp only [List.append_assoc, List.cons_append, List.nil_append, List.append_nil]
      rw [e1]
      exact PT_line PP (by omega) ⟨_, rfl⟩ (fun T c Z Rr B E => ln_cls Z Rr B E lk.1 lk.2.1 lk.2.2 (by omega) nd p1 p2 q2)
    · have z1 : fl = 1 := by omega
      subst z1
      rw [if_neg z]
      have e1 : wd 16 ++ kN k ++ [32] ++ dig p ++ [32] ++ dig q ++ wd 17 = 59 :: (wd 1 ++ 32 :: (kN k ++ 32 :: (dig p ++ 32 :: (dig q ++ 32 :: wd 13)))) := by
        rw [w16, w17]
        simp only [List.append_assoc, List.cons_append, List.nil_append]
      rw [e1]
      exact PT_line PP (by omega) ⟨_, rfl⟩ (fun T c Z Rr B E => ln_clsf Z Rr B E lk.1 lk.2.1 lk.2.2 (by omega) nd p1 p2 q2)
  · have : (if fl = 0 then wd 18 else wd 17).length ≤ 8 := by split <;> omega
    simp only [List.length_append, List.length_cons, List.length_nil]
    omega
  · obtain ⟨t1, a1, b1⟩ := r1 (t + 7)
    obtain ⟨u1, rfl⟩ : ∃ u, t1 = u + 2 := ⟨t1 - 2, by omega⟩
    obtain ⟨t2, a2, b2⟩ := r2 u1
    obtain ⟨u2, rfl⟩ : ∃ u, t2 = u + 2 := ⟨t2 - 2, by omega⟩
    obtain ⟨t3, a3, b3⟩ := r3 u2
    obtain ⟨u3, rfl⟩ : ∃ u, t3 = u + 3 := ⟨t3 - 3, by omega⟩
    obtain ⟨t4, a4, b4⟩ := r4 u3
    exact ⟨t4, by omega, b1.trans (b2.trans (b3.trans b4))⟩
def IRd (e : dEnv) (x0 b0 l0 N : Nat) (f : Nat → Int32) (tx : Nat) (ad : Nat → Nat) (S P K R yr C0 S0 k : Nat) (m : dMem) : Prop := ∃ a bb l h X, WG e x0 b0 l0 N f a tx bb (C0 + 24 + 8 * k) (S0 + 2100 + 700 * k) l 0 ad (W1 e ad X) m ∧ XF X S P K R yr ∧ TLD h S P K k ∧ (∀ c, c < K → X 1 c = h (94 + c) ∧ X 2 c = h (102 + c) ∧ X 4 c = h (110 + c)) ∧ (∀ c, c < k → X 3 c = h (40 + c)) ∧ PT l (wr zS 0 (Int32.ofNat yr)) h 0 (K + k) ∧ l.length ≤ 98 + 17 * k ∧ a ≤ 38 + 2 * k
theorem IRd_step (I : IRd e x0 b0 l0 N f tx ad S P K R yr C0 S0 k m) (hk : k < R) (hR : R ≤ 3) (hK : K ≤ 3) : ∃ m', IRd e x0 b0 l0 N f tx ad S P K R yr C0 S0 (k + 1) m' ∧ ∀ t, ∃ t', t ≤ t' ∧ runL e (dN e (d + 9)) 167 (t + 1) 15 [some (.ref (ad 0)), some (.ref b0), some (.int (Int32.ofNat k)), none, none, none, none, none] [] m = runL e (dN e (d + 9)) 167 t' 15 [some (.ref (ad 0)), some (.ref b0), some (.int (Int32.ofNat (k + 1))), none, none, none, none, none] [] m' := by
  obtain ⟨a, bb, l, h, X, G, XX, TT, rows, rows2, PP, hl, ha⟩ := I
  obtain ⟨p, m1, g1, p1, p2, G1⟩ := wg_draw (d := d) G (lo := 1) (hi := 4) (by omega) (by omega) (by omega)
  obtain ⟨m2, g2, W2, F2⟩ := W1_s (x := Int32.ofNat p) G1.w (i := 3) (kd := 0) (n := 6) (j := k) (by omega) rfl rfl (by omega) rfl (by omega) (by omega) rfl
  have G2 := G1.cha F2 W2 W1_fr
  have lp := dl1 (v := p) (by omega)
  have lk := (nm_ok k (by omega)).2
  have l19 : (wd 19).length = 8 := rfl
  obtain ⟨m3, g3, G3⟩ := wg_k (d := d) G2 (k := 19) (by omega) (by omega)
  obtain ⟨r, m4, m5, bb', g4, g5, G5⟩ := wg_reader (d := d) G3 (k := k) (by omega) (by rw [List.length_append]; omega)
  obtain ⟨m6, g6, G6⟩ := wg_c (d := d) G5 (v := 32) (by omega) (by simp only [List.length_append]; omega)
  obtain ⟨m7, g7, G7⟩ := wg_n (d := d) G6 (v := p) (by omega) (by simp only [List.length_append, List.length_cons, List.length_nil]; omega)
  have a1 : aI m6 0 (ad 3) (Int32.ofNat k) = some (Int32.ofNat p) := by
    have := W1_a G6.w (i := 3) (kd := 0) (n := 6) (j := k) (by omega) rfl rfl (by omega) rfl (by omega) (by omega)
    rw [this, uX_s, wr_s]
  obtain ⟨T1, T2, T3, T4⟩ := TLD_r TT (p := p) hK (by omega) p2
  have hh3 : nN (h 3) = k := by rw [TT.2.2.2.2.1]; exact nN_o (by omega)
  have nd : ∀ c, c < nN (h 3) → ∃ i, i < 6 ∧ h (4 + 6 * c + i) ≠ nmE (rN k) i := fun c hc => by
    rw [hh3] at hc
    obtain ⟨i, i1, i2⟩ := rN_ne k (by omega) c hc
    exact ⟨i, i1, by rw [TT.2.2.2.2.2.2 c hc i i1]; exact i2⟩
  refine ⟨m7, ⟨_, bb', _, rdrE (rN k) h p, _, G7.le (by omega) (by omega), XX.u (by omega), T1, fun c hc => ?_, fun c hc => ?_, ?_, ?_, by omega⟩, fun t => ⟨t, Nat.le_refl _, ?_⟩⟩
  · obtain ⟨z1, z2, z3⟩ := rows c hc
    rw [T2 _ (by omega), T2 _ (by omega), T2 _ (by omega), uX_n (by omega), uX_n (by omega), uX_n (by omega)]
    exact ⟨z1, z2, z3⟩
  · rcases Nat.lt_or_ge c k with y | y
    · rw [uX_s, wr_n (by omega), T3 c y]
      exact rows2 c y
    · have hck : c = k := by omega
      subst hck
      rw [uX_s, wr_s, T4]
  · have e1 : l ++ wd 19 ++ rN k ++ [32] ++ dig p = l ++ (59 :: (wd 3 ++ 32 :: (rN k ++ 32 :: dig p))) := by
      rw [w19]
      simp only [List.append_assoc, List.cons_append, List.nil_append]
    rw [e1]
    exact PT_line (n := K + k) PP (by omega) ⟨_, rfl⟩ (fun T c Z Rr B E => ln_rdr Z Rr B E lk.1 lk.2.1 lk.2.2 (by omega) nd p1 p2)
  · simp only [List.length_append, List.length_cons, List.length_nil]
    omega
  · rw [q167_15, W1_g G.w (k := 4) rfl, bd_s, XX.2.2.2.1, if_pos (by rw [nLt (by omega) (by omega)]; exact hk), W1_r G.w (k := 7) (q := 3) rfl, bd_s, g1, kI_r, g2, bd_s, W1_r G2.w (k := 0) (q := 1000) rfl, bd_s, G.t, g3, kR_r, g4, kR_r, g5, kR_r, g6, kR_r, W1_r G6.w (k := 7) (q := 3) rfl, bd_s, a1, bd_s, g7, kR_r, nAdd]
/-- from the first class to the last reader -/
theorem told (I : IC e x0 b0 l0 N f tx ad S P K R yr C0 S0 0 m) (hK : K ≤ 3) (hR : R ≤ 3) : ∃ m', IRd e x0 b0 l0 N f tx ad S P K R yr C0 S0 R m' ∧ ∀ t, ∃ t', t ≤ t' ∧ runL e (dN e (d + 9)) 167 (t + 50) 5 [some (.ref (ad 0)), some (.ref b0), some (.int (Int32.ofNat 0)), none, none, none, none, none] [] m = runL e (dN e (d + 9)) 167 t' 16 [some (.ref (ad 0)), some (.ref b0), none, none, none, none, none, none] [] m' := by
  obtain ⟨m1, I1, g1⟩ := lp_exC (α := dMem) (c := 9) (n := K) (P := fun k m => IC e x0 b0 l0 N f tx ad S P K R yr C0 S0 k m) (G := fun t k m => runL e (dN e (d + 9)) 167 t 5 [some (.ref (ad 0)), some (.ref b0), some (.int (Int32.ofNat k)), none, none, none, none, none] [] m) (fun k m hk I => IC_step I hk hK) K 0 m (by omega) I
  have I2 : IRd e x0 b0 l0 N f tx ad S P K R yr C0 S0 0 m1 := by
    obtain ⟨a, bb, l, h, X, G, XX, TT, rows, PP, hl, ha⟩ := I1
    exact ⟨a, bb, l, h, X, G.le (by omega) (by omega), XX, TT, rows, fun c hc => absurd hc (Nat.not_lt_zero _), PP, by omega, by omega⟩
  obtain ⟨m2, I3, g2⟩ := lp_exC (α := dMem) (c := 1) (n := R) (P := fun k m => IRd e x0 b0 l0 N f tx ad S P K R yr C0 S0 k m) (G := fun t k m => runL e (dN e (d + 9)) 167 t 15 [some (.ref (ad 0)), some (.ref b0), some (.int (Int32.ofNat k)), none, none, none, none, none] [] m) (fun k m hk I => IRd_step I hk hR hK) R 0 m1 (by omega) I2
  refine ⟨m2, I3, fun t => ?_⟩
  obtain ⟨t1, a1, b1⟩ := g1 (t + 50) (by omega)
  obtain ⟨u1, rfl⟩ : ∃ u, t1 = u + 2 := ⟨t1 - 2, by omega⟩
  obtain ⟨t2, a2, b2⟩ := g2 u1 (by omega)
  obtain ⟨u2, rfl⟩ : ∃ u, t2 = u + 1 := ⟨t2 - 1, by omega⟩
  refine ⟨u2, by omega, ?_⟩
  have s1 : runL e (dN e (d + 9)) 167 (u1 + 2) 5 [some (.ref (ad 0)), some (.ref b0), some (.int (Int32.ofNat K)), none, none, none, none, none] [] m1 = runL e (dN e (d + 9)) 167 u1 15 [some (.ref (ad 0)), some (.ref b0), some (.int (Int32.ofNat 0)), none, none, none, none, none] [] m1 := by
    obtain ⟨a, bb, l, h, X, G, XX, -⟩ := I1
    rw [q167_5, W1_g G.w (k := 3) rfl, bd_s, XX.2.2.1, if_neg (by rw [nLt (by omega) (by omega)]; omega), q167_14]
  have s2 : runL e (dN e (d + 9)) 167 (u2 + 1) 15 [some (.ref (ad 0)), some (.ref b0), some (.int (Int32.ofNat R)), none, none, none, none, none] [] m2 = runL e (dN e (d + 9)) 167 u2 16 [some (.ref (ad 0)), some (.ref b0), none, none, none, none, none, none] [] m2 := by
    obtain ⟨a, bb, l, h, X, G, XX, -⟩ := I3
    rw [q167_15, W1_g G.w (k := 4) rfl, bd_s, XX.2.2.2.1, if_neg (by rw [nLt (by omega) (by omega)]; omega)]
  exact b1.trans (s1.trans (b2.trans s2))
end
end

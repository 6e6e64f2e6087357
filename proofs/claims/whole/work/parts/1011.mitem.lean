/-! ===== the items of a line, as the reference reads them ===== -/
noncomputable section
def RTc (T : dTok) (M : bX) (c : Nat) : Prop := RT T M ∧ RC T M c ∧ M.1 0 16 = Int32.ofNat 0
def BAD (T : dTok) (M : bX) (r : dErr) : Prop := 1 ≤ r.1 ∧ r.1 ≤ 4 ∧ M.1 0 16 = Int32.ofNat r.1 ∧ M.1 0 17 = Int32.ofNat (tPl T r.2)
theorem BAD.ne {T : dTok} {M : bX} {r : dErr} (Z : BAD T M r) : ¬ M.1 0 16 = Int32.ofNat 0 := by
  obtain ⟨z1, z2, z3, -⟩ := Z
  rw [z3, nEq (by omega) (by omega)]
  omega
def flM (M : bX) (k : Nat) : bX := sF (sF M 16 (Int32.ofNat k)) 17 (M.1 0 13)
theorem flM_E {M : bX} {k : Nat} : mE M (flM M k) := (mE_sF (by omega) (by omega)).tr (mE_sF (by omega) (by omega))
theorem flM_B {T : dTok} {M : bX} {c k : Nat} (Z : RTc T M c) (h1 : 1 ≤ k) (h2 : k ≤ 4) : BAD T (flM M k) (k, c) := by
  refine ⟨h1, h2, ?_, ?_⟩
  · unfold flM
    rw [sF_n (by omega), sF_s]
  · unfold flM
    rw [sF_s]
    exact Z.2.1.2.1
theorem srt_1 {T : dTok} {c : Nat} (hb : kd T c ≤ 59) : (Int32.ofNat (srt T c) = Int32.ofNat 1) = (kd T c = 1) := by
  unfold srt
  split
  · rw [nEq (by omega) (by omega)]; exact propext ⟨fun q => by omega, fun q => by omega⟩
  · split
    · rw [nEq (by omega) (by omega)]; exact propext ⟨fun q => by omega, fun q => by omega⟩
    · split
      · rw [nEq (by omega) (by omega)]; exact propext ⟨fun q => by omega, fun q => by omega⟩
      · rw [nEq (by omega) (by omega)]
theorem srt_2 {T : dTok} {c : Nat} (hb : kd T c ≤ 59) : (Int32.ofNat (srt T c) = Int32.ofNat 2) = (kd T c = 2) := by
  unfold srt
  split
  · rw [nEq (by omega) (by omega)]; exact propext ⟨fun q => by omega, fun q => by omega⟩
  · split
    · rw [nEq (by omega) (by omega)]; exact propext ⟨fun q => by omega, fun q => by omega⟩
    · split
      · rw [nEq (by omega) (by omega)]; exact propext ⟨fun q => by omega, fun q => by omega⟩
      · rw [nEq (by omega) (by omega)]
theorem kd_b {T : dTok} {c : Nat} (Z : TOK T) (hc : c < tN T) : kd T c ≤ 59 ∧ (kd T c = 0 ∨ kd T c = 1 ∨ kd T c = 2 ∨ kd T c = 59 ∨ kd T c = 40 ∨ kd T c = 41 ∨ kd T c = 4) := by
  have h : tK T c = 0 ∨ tK T c = 1 ∨ tK T c = 2 ∨ tK T c = 59 ∨ tK T c = 40 ∨ tK T c = 41 ∨ tK T c = 4 := by
    rcases Nat.lt_or_ge (c + 1) (tN T) with q | q
    · exact Or.inr (Z.2.1 c q).1
    · have : c = tN T - 1 := by omega
      rw [this]
      exact Or.inl Z.1.2.2.2.1
  unfold kd
  split
  · omega
  · omega
theorem srt_k {T : dTok} {c k s : Nat} (Z : TOK T) (hc : c < tN T) (hk : k = 59 ∧ s = 3 ∨ k = 40 ∧ s = 5 ∨ k = 41 ∧ s = 6 ∨ k = 0 ∧ s = 0) : (Int32.ofNat (srt T c) = Int32.ofNat s) = (kd T c = k) := by
  have hb := (kd_b Z hc).2
  have hs : srt T c < 100 := by
    unfold srt
    repeat' split
    all_goals omega
  rw [nEq (by omega) (by omega)]
  unfold srt
  repeat' split
  all_goals exact propext ⟨fun q => by omega, fun q => by omega⟩
/-- a look's answer -/
def lkR (T : dTok) (b : Nat) (m : dMem) (M : bX) (run : Option dRes) (lo : Int32) (r : dErr ⊕ Nat) : Prop := match r with
  | .inl z => ∃ M', run = rI lo (ov TM 8 b M' m) ∧ BAD T M' z ∧ mE M M'
  | .inr v => run = rI (Int32.ofNat v) (ov TM 8 b M m)
/-- a take's answer: c is the token behind -/
def tkR (T : dTok) (b : Nat) (m : dMem) (M : bX) (run : Option dRes) (c : Nat) (lo : Int32) (r : dErr ⊕ Nat) : Prop := match r with
  | .inl z => ∃ M', run = rI lo (ov TM 8 b M' m) ∧ BAD T M' z ∧ mE M M'
  | .inr v => ∃ M', run = rI (Int32.ofNat v) (ov TM 8 b M' m) ∧ RTc T M' c ∧ mE M M'
section
variable {e : dEnv} {d b c x : Nat} {T : dTok} {M : bX} {m : dMem}
theorem m208 (he : e.1 ≤ b) (h0 : M.1 0 16 = Int32.ofNat 0) {k : Nat} : dN e (d + 1) 208 [.ref b, .int (Int32.ofNat k)] (ov TM 8 b M m) = some (.inl none, ov TM 8 b (flM M k) m) := by
  refine en208 M_c0 fun t ht => ?_
  obtain ⟨u, rfl⟩ := fu 9 ht rfl
  rw [q208_0, M_g0_16, h0]
  (try simp only [bd_s])
  rw [if_pos (by trivial), M_F16 he]
  (try simp only [bd_s])
  rw [M_g0_13, sF_n (by omega)]
  (try simp only [bd_s])
  rw [M_F17 he]
  (try simp only [bd_s])
  rw [q208_1]
  rfl
theorem b208 (h0 : ¬ M.1 0 16 = Int32.ofNat 0) {k : Int32} : dN e (d + 1) 208 [.ref b, .int k] (ov TM 8 b M m) = some (.inl none, ov TM 8 b M m) := by
  refine en208 M_c0 fun t ht => ?_
  obtain ⟨u, rfl⟩ := fu 9 ht rfl
  rw [q208_0, M_g0_16]
  (try simp only [bd_s])
  rw [if_neg h0, q208_1]
theorem m209_0 {k : Int32} : dN e (d + 2) 209 [.ref b, .int (Int32.ofNat 0), .int k] (ov TM 8 b M m) = some (.inl none, ov TM 8 b M m) := by
  refine en209 M_c0 fun t ht => ?_
  obtain ⟨u, rfl⟩ := fu 9 ht rfl
  rw [q209_0, if_pos (by trivial), q209_1]
theorem m209_1 (he : e.1 ≤ b) (h0 : M.1 0 16 = Int32.ofNat 0) {k : Nat} : dN e (d + 2) 209 [.ref b, .int (Int32.ofNat 1), .int (Int32.ofNat k)] (ov TM 8 b M m) = some (.inl none, ov TM 8 b (flM M k) m) := by
  refine en209 M_c0 fun t ht => ?_
  obtain ⟨u, rfl⟩ := fu 9 ht rfl
  rw [q209_0, if_neg (by decide +kernel), m208 he h0, kV_r, q209_1]
theorem b209 (h0 : ¬ M.1 0 16 = Int32.ofNat 0) {i k : Int32} : dN e (d + 2) 209 [.ref b, .int i, .int k] (ov TM 8 b M m) = some (.inl none, ov TM 8 b M m) := by
  refine en209 M_c0 fun t ht => ?_
  obtain ⟨u, rfl⟩ := fu 9 ht rfl
  rw [q209_0]
  by_cases q : i = Int32.ofNat 0
  · rw [if_pos q, q209_1]
  · rw [if_neg q, b208 h0, kV_r, q209_1]
theorem m210 (he : e.1 ≤ b) (Z : RTc T M c) : ∃ M', dN e (d + 3) 210 [.ref b] (ov TM 8 b M m) = some (.inl none, ov TM 8 b M' m) ∧ RTc T M' (nx T c) ∧ mE M M' := by
  obtain ⟨z1, z2, z3⟩ := Z
  obtain ⟨M', g, h1, h2, h3⟩ := m207 (e := e) (d := d) (m := m) he z1 (nx_lt z2.2.2.2.2) (GO_nx z1.1 z2.2.2.2.2) z2.1
  refine ⟨M', ?_, ⟨z1.e h2, h1, h3.trans z3⟩, h2⟩
  refine en210 M_c0 fun t ht => ?_
  obtain ⟨u, rfl⟩ := fu 9 ht rfl
  rw [q210_0, M_g0_16, z3]
  (try simp only [bd_s])
  rw [if_pos (by trivial), g, kV_r, q210_1]
theorem b210 (h0 : ¬ M.1 0 16 = Int32.ofNat 0) : dN e (d + 3) 210 [.ref b] (ov TM 8 b M m) = some (.inl none, ov TM 8 b M m) := by
  refine en210 M_c0 fun t ht => ?_
  obtain ⟨u, rfl⟩ := fu 9 ht rfl
  rw [q210_0, M_g0_16]
  (try simp only [bd_s])
  rw [if_neg h0, q210_1]
theorem b211 {sa : Nat} (h0 : ¬ M.1 0 16 = Int32.ofNat 0) : dN e (d + 3) 211 [.ref b, .ref sa] (ov TM 8 b M m) = rI (bI false) (ov TM 8 b M m) := by
  refine en211 M_c0 fun t ht => ?_
  obtain ⟨u, rfl⟩ := fu 9 ht rfl
  rw [q211_0, M_g0_16]
  (try simp only [bd_s])
  rw [if_neg h0, q211_1, rZ_0]
theorem RC.len (Z : TOK T) (h : RC T M c) (hk : kd T c = 1 ∨ kd T c = 2) : ee T c = tPl T c + tL T c ∧ tPl T c + tL T c ≤ tE T := by
  have h1 : tK T c ≠ 0 := by
    intro q
    unfold kd at hk
    split at hk
    · omega
    · omega
  have h2 := Z.lt h.2.2.2.2 h1
  exact ⟨if_pos h2, (Z.2.1 c h2).2.2.1⟩
theorem m211 (Z : RTc T M c) (S : hSt e x m) (hx : x ≤ b) {k : Nat} (hk : k < 30) : dN e (d + 3) 211 [.ref b, .ref (e.2 k)] (ov TM 8 b M m) = rI (bI (isW T c (wd k))) (ov TM 8 b M m) := by
  obtain ⟨z1, z2, z3⟩ := Z
  have hl := z2.2.2.2.2
  have hb := z1.1.b hl
  obtain ⟨kb, -⟩ := kd_b z1.1 hl
  have S1 : hS1 x (ov TM 8 b M m) (e.2 k) (wd k) := (S k hk).fr (fun q hq => ov_out (by omega))
  obtain ⟨w1, w2, w3⟩ := wd_ok hk
  have g1 := s387 (e := e) (d := d) S1
  refine en211 M_c0 fun t ht => ?_
  obtain ⟨u, rfl⟩ := fu 3 ht rfl
  unfold isW
  rw [q211_0, M_g0_16, z3]
  (try simp only [bd_s])
  rw [if_pos (by trivial), M_g0_14, z2.2.2.1]
  (try simp only [bd_s])
  by_cases c1 : kd T c = 1
  · have t1 := kd_1 c1
    obtain ⟨l1, l2⟩ := z2.len z1.1 (Or.inl c1)
    rw [if_pos (by rw [srt_1 kb]; exact c1), M_g0_12, z2.1, l1, decide_eq_true t1, Bool.true_and]
    (try simp only [bd_s])
    rw [M_g0_13, z2.2.1]
    (try simp only [bd_s])
    rw [g1, kI_r, nSub (by omega), show tPl T c + tL T c - tPl T c = tL T c by omega]
    by_cases c2 : tL T c = (wd k).length
    · rw [if_pos (by rw [c2]), decide_eq_true c2, Bool.true_and, q211_2]
      have key : ∀ t, 3 * ((wd k).length + 1) ≤ t → runL e (dN e (d + 2)) 211 t 3 [some (.ref b), some (.ref (e.2 k)), some (.int (Int32.ofNat 0))] [] (ov TM 8 b M m) = (match fnd (wd k).length (fun j => !decide (tB T (tPl T c + j) = (wd k).getD j 0)) with | some _ => rI (bI false) (ov TM 8 b M m) | none => rI (bI true) (ov TM 8 b M m)) := by
        refine lp_find2 (c := 3) (n := (wd k).length) (p := fun j => !decide (tB T (tPl T c + j) = (wd k).getD j 0)) (r := fun _ => rI (bI false) (ov TM 8 b M m)) (r0 := rI (bI true) (ov TM 8 b M m)) (G := fun t j => runL e (dN e (d + 2)) 211 t 3 [some (.ref b), some (.ref (e.2 k)), some (.int (Int32.ofNat j))] [] (ov TM 8 b M m)) (fun j hj hp => ⟨2, by omega, fun t => ?_⟩) (fun t j hj hp => ?_) (fun t => ?_)
        · have z : tB T (tPl T c + j) = (wd k).getD j 0 := by
            have hp' : (!decide (tB T (tPl T c + j) = (wd k).getD j 0)) = false := hp
            rcases Decidable.em (tB T (tPl T c + j) = (wd k).getD j 0) with z | z
            · exact z
            · rw [decide_eq_false z] at hp'
              cases hp'
          have wj := z1.1.word hl t1 (j := j) (by omega)
          have g2 := s389 (e := e) (d := d) S1 hj (by omega) (gd_lt w3)
          rw [q211_3, g1, kI_r, if_pos (by rw [nLt (by omega) (by omega)]; exact hj), M_g0_13, z2.2.1]
          (try simp only [bd_s])
          rw [nAdd, m204 z1 (by omega), kI_r, g2, kI_r, show sn T (tPl T c + j) = Int32.ofNat (tB T (tPl T c + j)) from if_pos wj.2.2.1, if_pos (by rw [z]), q211_4, nAdd]
        · have z : ¬ tB T (tPl T c + j) = (wd k).getD j 0 := by
            have hp' : (!decide (tB T (tPl T c + j) = (wd k).getD j 0)) = true := hp
            intro z
            rw [decide_eq_true z] at hp'
            cases hp'
          have wj := z1.1.word hl t1 (j := j) (by omega)
          have gl := gd_lt (i := j) w3
          have g2 := s389 (e := e) (d := d) S1 hj (by omega) gl
          show runL e (dN e (d + 2)) 211 (t + 2 + 1) 3 _ [] _ = _
          rw [q211_3, g1, kI_r, if_pos (by rw [nLt (by omega) (by omega)]; exact hj), M_g0_13, z2.2.1]
          (try simp only [bd_s])
          rw [nAdd, m204 z1 (by omega), kI_r, g2, kI_r, show sn T (tPl T c + j) = Int32.ofNat (tB T (tPl T c + j)) from if_pos wj.2.2.1, if_neg (by rw [nEq (by omega) (by omega)]; exact z), rZ_0]
        · show runL e (dN e (d + 2)) 211 (t + 2 + 1) 3 _ [] _ = _
          rw [q211_3, g1, kI_r, if_neg (by rw [nLt (by omega) (by omega)]; exact Nat.lt_irrefl _), q211_5, rZ_1]
      rw [key _ (by omega)]
      unfold anyB
      cases fnd (wd k).length (fun j => !decide (tB T (tPl T c + j) = (wd k).getD j 0)) <;> rfl
    · rw [if_neg (by rw [nEq (by omega) (by omega)]; exact c2), decide_eq_false c2, q211_1, rZ_0]
      rfl
  · rw [if_neg (by rw [srt_1 kb]; exact c1), q211_1, rZ_0]
    by_cases t1 : tK T c = 1
    · have : ¬ tL T c = (wd k).length := by
        intro q
        unfold kd at c1
        rw [if_neg (by omega)] at c1
        exact c1 t1
      rw [decide_eq_false this, Bool.false_and, Bool.and_false]
    · rw [decide_eq_false t1, Bool.false_and]
theorem m212 (he : e.1 ≤ b) (Z : RTc T M c) {lo : Nat} {hi : Int32} (hlo : lo < 100000) : lkR T b m M (dN e (d + 2) 212 [.ref b, .int (Int32.ofNat lo), .int hi] (ov TM 8 b M m)) (Int32.ofNat lo) (pNum T c lo hi.toInt) := by
  have Zc := Z
  obtain ⟨z1, z2, z3⟩ := Z
  have hl := z2.2.2.2.2
  obtain ⟨kb, -⟩ := kd_b z1.1 hl
  have n0 : ∀ k, 1 ≤ k → k ≤ 4 → ¬ (flM M k).1 0 16 = Int32.ofNat 0 := fun k h1 h2 => (flM_B Zc h1 h2).ne
  rw [dN_at (j := 212) (as := [.ref b, .int (Int32.ofNat lo), .int hi]) (m := ov TM 8 b M m) (ls := [some (.ref b), some (.int (Int32.ofNat lo)), some (.int hi)]) M_c0 rfl rfl rfl, dFu, q212_0, M_g0_14, z2.2.2.1]
  (try simp only [bd_s])
  unfold pNum
  by_cases c1 : kd T c = 2
  · have vb := (vl_b z1.1 hl c1).2.2
    have g9 := c_rng (e := e) (d := d) (m := ov TM 8 b M m) (x := Int32.ofNat (vl T c)) (v := (Int32.ofNat lo).toInt64) (w := hi.toInt64)
    rw [Int32.toInt_toInt64, Int32.toInt_toInt64, nToI (by omega)] at g9
    have er : rngB (lo : Int) hi.toInt (Int32.ofNat (vl T c)) = (decide (lo ≤ vl T c) && decide ((vl T c : Int) ≤ hi.toInt)) := by
      unfold rngB
      rw [nToI (by omega)]
      congr 1
      exact decide_eq_decide.mpr ⟨fun q => by omega, fun q => by omega⟩
    rw [er] at g9
    rw [if_pos (by rw [srt_2 kb]; exact c1), q212_1, M_g0_15, z2.2.2.2.1 c1, decide_eq_true c1, pC_t]
    (try simp only [bd_s])
    rw [g9, kI_r]
    cases q : (decide (lo ≤ vl T c) && decide ((vl T c : Int) ≤ hi.toInt)) with
    | false =>
      rw [if_pos (by decide +kernel), m208 he z3, kV_r, q212_2, M_g0_16]
      (try simp only [bd_s])
      rw [if_neg (n0 2 (by omega) (by omega)), q212_4]
      exact ⟨_, rfl, flM_B Zc (by omega) (by omega), flM_E⟩
    | true =>
      rw [if_neg (by decide +kernel), q212_2, M_g0_16, z3]
      (try simp only [bd_s])
      rw [if_pos (by trivial), q212_3, M_g0_15, z2.2.2.2.1 c1]
      (try simp only [bd_s])
      rw [q212_4]
      exact rfl
  · rw [if_neg (by rw [srt_2 kb]; exact c1), m208 he z3, kV_r, q212_2, M_g0_16, decide_eq_false c1]
    (try simp only [bd_s])
    rw [if_neg (n0 1 (by omega) (by omega)), q212_4]
    exact ⟨_, rfl, flM_B Zc (by omega) (by omega), flM_E⟩
theorem b212 (h0 : ¬ M.1 0 16 = Int32.ofNat 0) {lo hi : Int32} : dN e (d + 2) 212 [.ref b, .int lo, .int hi] (ov TM 8 b M m) = rI lo (ov TM 8 b M m) := by
  have e2 : ∀ t, runL e (dN e (d + 1)) 212 (t + 2) 2 [some (.ref b), some (.int lo), none] [] (ov TM 8 b M m) = rI lo (ov TM 8 b M m) := by
    intro t
    rw [q212_2, M_g0_16]
    (try simp only [bd_s])
    rw [if_neg h0, q212_4]
  refine en212 M_c0 fun t ht => ?_
  obtain ⟨u, rfl⟩ := fu 9 ht rfl
  rw [q212_0, M_g0_14]
  (try simp only [bd_s])
  by_cases q : M.1 0 14 = Int32.ofNat 2
  · rw [if_pos q, q212_1, M_g0_15]
    (try simp only [bd_s])
    rw [c_in, kI_r, b208 h0, kV_r, e2]
    split
    · rfl
    · rfl
  · rw [if_neg q, b208 h0, kV_r, e2]
theorem m213 (he : e.1 ≤ b) (Z : RTc T M c) {lo : Nat} {hi : Int32} (hlo : lo < 100000) : tkR T b m M (dN e (d + 4) 213 [.ref b, .int (Int32.ofNat lo), .int hi] (ov TM 8 b M m)) (nx T c) (Int32.ofNat lo) (pNum T c lo hi.toInt) := by
  have L := m212 (e := e) (d := d + 1) (m := m) he Z (hi := hi) hlo
  rw [dN_at (j := 213) (as := [.ref b, .int (Int32.ofNat lo), .int hi]) (m := ov TM 8 b M m) (ls := [some (.ref b), some (.int (Int32.ofNat lo)), some (.int hi), none]) M_c0 rfl rfl rfl, dFu, q213_0]
  cases hr : pNum T c lo hi.toInt with
  | inl z =>
    rw [hr] at L
    obtain ⟨M', g, B, E⟩ := L
    rw [g, kI_r, b210 (d := d) B.ne, kV_r]
    exact ⟨M', rfl, B, E⟩
  | inr v =>
    rw [hr] at L
    have L' : dN e (d + 3) 212 [.ref b, .int (Int32.ofNat lo), .int hi] (ov TM 8 b M m) = rI (Int32.ofNat v) (ov TM 8 b M m) := L
    obtain ⟨M', g, h1, h2⟩ := m210 (e := e) (d := d) (m := m) he Z
    rw [L', kI_r, g, kV_r]
    exact ⟨M', rfl, h1, h2⟩
theorem b213 (h0 : ¬ M.1 0 16 = Int32.ofNat 0) {lo hi : Int32} : dN e (d + 4) 213 [.ref b, .int lo, .int hi] (ov TM 8 b M m) = rI lo (ov TM 8 b M m) := by
  refine en213 M_c0 fun t ht => ?_
  obtain ⟨u, rfl⟩ := fu 9 ht rfl
  rw [q213_0, b212 (d := d + 1) h0, kI_r, b210 (d := d) h0, kV_r]
theorem m220 (he : e.1 ≤ b) (Z : RTc T M c) (W : okI 0 24 (M.1 2 1)) : lkR T b m M (dN e (d + 3) 220 [.ref b] (ov TM 8 b M m)) (Int32.ofNat 0) (pBox T c (M.1 2)) := by
  obtain ⟨n, n1, n2, -, n4⟩ := W.ex
  have L := m212 (e := e) (d := d) (m := m) he Z (lo := 0) (hi := Int32.ofNat n - Int32.ofNat 1) (by omega)
  rw [hiI (by omega)] at L
  rw [dN_at (j := 220) (as := [.ref b]) (m := ov TM 8 b M m) (ls := [some (.ref b)]) M_c0 rfl rfl rfl, dFu, q220_0, M_r0_3]
  (try simp only [bd_s])
  rw [M_a2 (by omega), n1]
  (try simp only [bd_s])
  have hn : nbS (M.1 2) = n := n2
  unfold pBox
  rw [hn]
  cases hr : pNum T c 0 ((n : Int) - 1) with
  | inl z =>
    rw [hr] at L
    obtain ⟨M', g, B, E⟩ := L
    rw [g, kI_r]
    exact ⟨M', rfl, B, E⟩
  | inr v =>
    rw [hr] at L
    have L' : dN e (d + 2) 212 [.ref b, .int (Int32.ofNat 0), .int (Int32.ofNat n - Int32.ofNat 1)] (ov TM 8 b M m) = rI (Int32.ofNat v) (ov TM 8 b M m) := L
    rw [L', kI_r]
    exact rfl
theorem b220 (h0 : ¬ M.1 0 16 = Int32.ofNat 0) : dN e (d + 3) 220 [.ref b] (ov TM 8 b M m) = rI (Int32.ofNat 0) (ov TM 8 b M m) := by
  refine en220 M_c0 fun t ht => ?_
  obtain ⟨u, rfl⟩ := fu 9 ht rfl
  rw [q220_0, M_r0_3]
  (try simp only [bd_s])
  rw [M_a2 (by omega)]
  (try simp only [bd_s])
  rw [b212 (d := d) h0, kI_r]
end
end

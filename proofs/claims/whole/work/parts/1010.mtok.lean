/-! ===== tokens, as the reference reads them ===== -/
noncomputable section
/-- a field of the reference is written -/
def sF (M : bX) (k : Nat) (v : Int32) : bX := uA M 0 (wr (M.1 0) k v)
theorem sF_s {M : bX} {k : Nat} {v : Int32} : (sF M k v).1 0 k = v := by unfold sF; rw [uA_s, wr_s]
theorem sF_n {M : bX} {k j : Nat} {v : Int32} (h : j ≠ k) : (sF M k v).1 0 j = M.1 0 j := by unfold sF; rw [uA_s, wr_n h]
theorem sF_i {M : bX} {k i : Nat} {v : Int32} (h : i ≠ 0) : (sF M k v).1 i = M.1 i := by unfold sF; rw [uA_n h]
theorem sF_sF {M : bX} {k : Nat} {v w : Int32} : sF (sF M k v) k w = sF M k w := by unfold sF; rw [uA_s, uA_uA, wr_wr]
theorem sF_e {M : bX} {k : Nat} {v : Int32} (h : M.1 0 k = v) : sF M k v = M := by unfold sF; rw [← h, wr_self, uA_self]
/-- where a token ends; its sort -/
def ee (T : dTok) (i : Nat) : Nat := if i + 1 < tN T then tPl T i + tL T i else tE T
def srt (T : dTok) (c : Nat) : Nat := if kd T c = 59 then 3 else if kd T c = 40 then 5 else if kd T c = 41 then 6 else kd T c
/-- the text lies in the buffer -/
def RT (T : dTok) (M : bX) : Prop := TOK T ∧ M.1 0 11 = Int32.ofNat (tE T) ∧ ∀ j, j < tE T → M.1 5 j = Int32.ofNat (tB T j)
/-- the token c is the present one -/
def RC (T : dTok) (M : bX) (c : Nat) : Prop := M.1 0 12 = Int32.ofNat (ee T c) ∧ M.1 0 13 = Int32.ofNat (tPl T c) ∧ M.1 0 14 = Int32.ofNat (srt T c) ∧ (kd T c = 2 → M.1 0 15 = Int32.ofNat (vl T c)) ∧ c < tN T
/-- only fields of reading change -/
def mE (M M' : bX) : Prop := (∀ i, i ≠ 0 → M'.1 i = M.1 i) ∧ ∀ k, k < 12 ∨ 17 < k → M'.1 0 k = M.1 0 k
theorem mE.rf {M : bX} : mE M M := ⟨fun _ _ => rfl, fun _ _ => rfl⟩
theorem mE.tr {M M1 M2 : bX} (a : mE M M1) (b : mE M1 M2) : mE M M2 := ⟨fun i h => (b.1 i h).trans (a.1 i h), fun k h => (b.2 k h).trans (a.2 k h)⟩
theorem mE_sF {M : bX} {k : Nat} {v : Int32} (h : 12 ≤ k) (h2 : k ≤ 17) : mE M (sF M k v) := ⟨fun i hi => sF_i hi, fun j hj => sF_n (by omega)⟩
theorem RT.e {T : dTok} {M M' : bX} (Z : RT T M) (E : mE M M') : RT T M' := ⟨Z.1, (E.2 11 (by omega)).trans Z.2.1, fun j hj => by rw [E.1 5 (by omega)]; exact Z.2.2 j hj⟩
def sn (T : dTok) (k : Nat) : Int32 := if k < tE T then Int32.ofNat (tB T k) else nM1
theorem ck_1' {v : Nat} : (ck v = 1) = (97 ≤ v ∧ v ≤ 122) := by
  refine propext ⟨ck_1, fun h => ?_⟩
  unfold ck
  rw [if_pos h]
theorem ck_2' {v : Nat} : (ck v = 2) = (48 ≤ v ∧ v ≤ 57) := by
  refine propext ⟨ck_2, fun h => ?_⟩
  unfold ck
  rw [if_neg (by omega), if_pos h]
section
variable {e : dEnv} {d b : Nat} {T : dTok} {M : bX} {m : dMem}
theorem M_F0 (he : e.1 ≤ b) {x : Int32} : pI e (ov TM 8 b M m) b 10 0 x = some (ov TM 8 b (sF M 0 x) m) := M_p0_0 he
theorem M_F5 (he : e.1 ≤ b) {x : Int32} : pI e (ov TM 8 b M m) b 10 5 x = some (ov TM 8 b (sF M 5 x) m) := M_p0_5 he
theorem M_F8 (he : e.1 ≤ b) {x : Int32} : pI e (ov TM 8 b M m) b 10 8 x = some (ov TM 8 b (sF M 8 x) m) := M_p0_8 he
theorem M_F9 (he : e.1 ≤ b) {x : Int32} : pI e (ov TM 8 b M m) b 10 9 x = some (ov TM 8 b (sF M 9 x) m) := M_p0_9 he
theorem M_F10 (he : e.1 ≤ b) {x : Int32} : pI e (ov TM 8 b M m) b 10 10 x = some (ov TM 8 b (sF M 10 x) m) := M_p0_10 he
theorem M_F11 (he : e.1 ≤ b) {x : Int32} : pI e (ov TM 8 b M m) b 10 11 x = some (ov TM 8 b (sF M 11 x) m) := M_p0_11 he
theorem M_F12 (he : e.1 ≤ b) {x : Int32} : pI e (ov TM 8 b M m) b 10 12 x = some (ov TM 8 b (sF M 12 x) m) := M_p0_12 he
theorem M_F13 (he : e.1 ≤ b) {x : Int32} : pI e (ov TM 8 b M m) b 10 13 x = some (ov TM 8 b (sF M 13 x) m) := M_p0_13 he
theorem M_F14 (he : e.1 ≤ b) {x : Int32} : pI e (ov TM 8 b M m) b 10 14 x = some (ov TM 8 b (sF M 14 x) m) := M_p0_14 he
theorem M_F15 (he : e.1 ≤ b) {x : Int32} : pI e (ov TM 8 b M m) b 10 15 x = some (ov TM 8 b (sF M 15 x) m) := M_p0_15 he
theorem M_F16 (he : e.1 ≤ b) {x : Int32} : pI e (ov TM 8 b M m) b 10 16 x = some (ov TM 8 b (sF M 16 x) m) := M_p0_16 he
theorem M_F17 (he : e.1 ≤ b) {x : Int32} : pI e (ov TM 8 b M m) b 10 17 x = some (ov TM 8 b (sF M 17 x) m) := M_p0_17 he
theorem M_F19 (he : e.1 ≤ b) {x : Int32} : pI e (ov TM 8 b M m) b 10 19 x = some (ov TM 8 b (sF M 19 x) m) := M_p0_19 he
theorem m204 (Z : RT T M) {k : Nat} (hk : k ≤ 2000) : dN e (d + 1) 204 [.ref b, .int (Int32.ofNat k)] (ov TM 8 b M m) = rI (sn T k) (ov TM 8 b M m) := by
  have hE := Z.1.1.2.2.1
  unfold sn
  refine en204 M_c0 fun t ht => ?_
  obtain ⟨u, rfl⟩ := fu 9 ht rfl
  rw [q204_0, M_g0_11, Z.2.1]
  (try simp only [bd_s])
  by_cases q : k < tE T
  · rw [if_pos (by rw [nLt (by omega) (by omega)]; exact q), if_pos q, M_r0_7]
    (try simp only [bd_s])
    rw [M_a5 (by omega), Z.2.2 k q]
    (try simp only [bd_s])
    rw [q204_2]
  · rw [if_neg (by rw [nLt (by omega) (by omega)]; exact q), if_neg q, q204_1, q204_2]
theorem m205 (Z : RT T M) {k : Nat} {m : dMem} : dN e (d + 1) 205 [.int (sn T k)] m = rI (bI (decide (k < tE T ∧ ck (tB T k) = 1))) m := by
  have hB := Z.1.2.2.2 k
  unfold sn
  refine en205 fun t ht => ?_
  obtain ⟨u, rfl⟩ := fu 9 ht rfl
  by_cases q : k < tE T
  · rw [if_pos q, q205_0]
    by_cases c1 : tB T k < 97
    · rw [if_pos (by rw [nLt (by omega) (by omega)]; exact c1), q205_1, q205_2, decide_eq_false (by rw [ck_1']; omega), rZ_0]
    rw [if_neg (by rw [nLt (by omega) (by omega)]; exact c1)]
    by_cases c2 : 122 < tB T k
    · rw [if_pos (by rw [nLt (by omega) (by omega)]; exact c2), q205_1, q205_2, decide_eq_false (by rw [ck_1']; omega), rZ_0]
    rw [if_neg (by rw [nLt (by omega) (by omega)]; exact c2), q205_2, decide_eq_true (by rw [ck_1']; omega), rZ_1]
  · rw [if_neg q, q205_0, if_pos (by rw [nMLt (by omega)]; trivial), q205_1, q205_2, decide_eq_false (by omega), rZ_0]
theorem m206 (Z : RT T M) {k : Nat} {m : dMem} : dN e (d + 1) 206 [.int (sn T k)] m = rI (bI (decide (k < tE T ∧ ck (tB T k) = 2))) m := by
  have hB := Z.1.2.2.2 k
  unfold sn
  refine en206 fun t ht => ?_
  obtain ⟨u, rfl⟩ := fu 9 ht rfl
  by_cases q : k < tE T
  · rw [if_pos q, q206_0]
    by_cases c1 : tB T k < 48
    · rw [if_pos (by rw [nLt (by omega) (by omega)]; exact c1), q206_1, q206_2, decide_eq_false (by rw [ck_2']; omega), rZ_0]
    rw [if_neg (by rw [nLt (by omega) (by omega)]; exact c1)]
    by_cases c2 : 57 < tB T k
    · rw [if_pos (by rw [nLt (by omega) (by omega)]; exact c2), q206_1, q206_2, decide_eq_false (by rw [ck_2']; omega), rZ_0]
    rw [if_neg (by rw [nLt (by omega) (by omega)]; exact c2), q206_2, decide_eq_true (by rw [ck_2']; omega), rZ_1]
  · rw [if_neg q, q206_0, if_pos (by rw [nMLt (by omega)]; trivial), q206_1, q206_2, decide_eq_false (by omega), rZ_0]
/-- spaces are skipped -/
theorem m207_0 (he : e.1 ≤ b) {P : Nat} (hP : P ≤ tE T) (hs : ¬ (P < tE T ∧ tB T P = 32)) : ∀ (r j : Nat) (M : bX), RT T M → j + r = P → M.1 0 12 = Int32.ofNat j → (∀ i, j ≤ i → i < P → tB T i = 32) → ∀ t, runL e (dN e (d + 1)) 207 (t + r + 1) 0 [some (.ref b), none] [] (ov TM 8 b M m) = runL e (dN e (d + 1)) 207 t 1 [some (.ref b), none] [] (ov TM 8 b (sF M 12 (Int32.ofNat P)) m) := by
  intro r
  induction r with
  | zero =>
    intro j M Z hj h12 hsp t
    have hj' : j = P := by omega
    subst hj'
    have hE := Z.1.1.2.2.1
    have hB := Z.1.2.2.2 j
    have ne : ¬ sn T j = Int32.ofNat 32 := by
      unfold sn
      by_cases q : j < tE T
      · rw [if_pos q, nEq (by omega) (by omega)]
        exact fun z => hs ⟨q, z⟩
      · rw [if_neg q, nMEq (by omega)]
        exact id
    rw [q207_0, M_g0_12, h12]
    (try simp only [bd_s])
    rw [m204 Z (by omega), kI_r, if_neg ne, sF_e h12]
  | succ r ih =>
    intro j M Z hj h12 hsp t
    have hE := Z.1.1.2.2.1
    have s0 : sn T j = Int32.ofNat 32 := by
      unfold sn
      rw [if_pos (by omega), hsp j (Nat.le_refl _) (by omega)]
    have := ih (j + 1) (sF M 12 (Int32.ofNat (j + 1))) (Z.e (mE_sF (by omega) (by omega))) (by omega) sF_s (fun i h1 h2 => hsp i (by omega) h2) t
    rw [sF_sF] at this
    rw [show t + (r + 1) + 1 = (t + r + 1) + 1 by omega, q207_0, M_g0_12, h12]
    (try simp only [bd_s])
    rw [m204 Z (by omega), kI_r, s0, if_pos (by trivial), M_g0_12, h12]
    (try simp only [bd_s])
    rw [nAdd, M_p0_12 he]
    (try simp only [bd_s])
    exact this
/-- a word's letters -/
theorem m207_3 (he : e.1 ≤ b) {Q : Nat} (hQ : Q ≤ tE T) (hs : ¬ (Q < tE T ∧ ck (tB T Q) = 1)) : ∀ (r j : Nat) (M : bX), RT T M → j + r = Q → M.1 0 12 = Int32.ofNat j → (∀ i, j ≤ i → i < Q → ck (tB T i) = 1) → ∀ t, runL e (dN e (d + 1)) 207 (t + r + 1) 3 [some (.ref b), none] [] (ov TM 8 b M m) = runL e (dN e (d + 1)) 207 t 4 [some (.ref b), none] [] (ov TM 8 b (sF M 12 (Int32.ofNat Q)) m) := by
  intro r
  induction r with
  | zero =>
    intro j M Z hj h12 hsp t
    have hj' : j = Q := by omega
    subst hj'
    have hE := Z.1.1.2.2.1
    rw [q207_3, M_g0_12, h12]
    (try simp only [bd_s])
    rw [m204 Z (by omega), kI_r, m205 Z, kI_r, decide_eq_false hs, if_pos (by decide +kernel), sF_e h12]
  | succ r ih =>
    intro j M Z hj h12 hsp t
    have hE := Z.1.1.2.2.1
    have := ih (j + 1) (sF M 12 (Int32.ofNat (j + 1))) (Z.e (mE_sF (by omega) (by omega))) (by omega) sF_s (fun i h1 h2 => hsp i (by omega) h2) t
    rw [sF_sF] at this
    rw [show t + (r + 1) + 1 = (t + r + 1) + 1 by omega, q207_3, M_g0_12, h12]
    (try simp only [bd_s])
    rw [m204 Z (by omega), kI_r, m205 Z, kI_r, decide_eq_true ⟨by omega, hsp j (Nat.le_refl _) (by omega)⟩, if_neg (by decide +kernel), M_g0_12, h12]
    (try simp only [bd_s])
    rw [nAdd, M_p0_12 he]
    (try simp only [bd_s])
    exact this
/-- a number's digits -/
theorem m207_8 (he : e.1 ≤ b) {c Q : Nat} (hc : c < tN T) (hk : tK T c = 2) (hQ : Q = tPl T c + tL T c) (hs : ¬ (Q < tE T ∧ ck (tB T Q) = 2)) : ∀ (r j : Nat) (M : bX), RT T M → j + r = tL T c → M.1 0 12 = Int32.ofNat (tPl T c + j) → M.1 0 13 = Int32.ofNat (tPl T c) → (j ≤ 4 → M.1 0 15 = Int32.ofNat (vlK T c j)) → ∃ M', (∀ t, 3 * r + 1 ≤ t → ∃ u, t ≤ u + 3 * r + 1 ∧ runL e (dN e (d + 1)) 207 t 8 [some (.ref b), none] [] (ov TM 8 b M m) = runL e (dN e (d + 1)) 207 u 11 [some (.ref b), none] [] (ov TM 8 b M' m)) ∧ mE M M' ∧ M'.1 0 12 = Int32.ofNat Q ∧ M'.1 0 13 = Int32.ofNat (tPl T c) ∧ (tL T c ≤ 4 → M'.1 0 15 = Int32.ofNat (vl T c)) ∧ M'.1 0 16 = M.1 0 16 := by
  intro r
  induction r with
  | zero =>
    intro j M Z hj h12 h13 h15
    have hj' : j = tL T c := by omega
    have hb := Z.1.b hc
    subst hj'
    rw [← hQ] at h12
    refine ⟨M, fun t ht => ?_, mE.rf, h12, h13, h15, rfl⟩
    obtain ⟨u, rfl⟩ : ∃ u, t = u + 1 := ⟨t - 1, by omega⟩
    refine ⟨u, by omega, ?_⟩
    rw [q207_8, M_g0_12, h12]
    (try simp only [bd_s])
    rw [m204 Z (by omega), kI_r, m206 Z, kI_r, decide_eq_false hs, if_pos (by decide +kernel)]
  | succ r ih =>
    intro j M Z hj h12 h13 h15
    have hb := Z.1.b hc
    have nj := Z.1.num hc hk (j := j) (by omega)
    have nk : ck (tB T (tPl T c + j)) = 2 := by rw [ck_2']; omega
    have sj : sn T (tPl T c + j) = Int32.ofNat (tB T (tPl T c + j)) := if_pos (by omega)
    by_cases q : j < 4
    · have vj := vlK_b Z.1 hc hk (j := j) (by omega)
      have p4 : 10 ^ j ≤ 10 ^ 4 := Nat.pow_le_pow_right (by omega) (by omega)
      obtain ⟨M', g, E, f1, f2, f3, f4⟩ := ih (j + 1) (sF (sF M 15 (Int32.ofNat (vlK T c (j + 1)))) 12 (Int32.ofNat (tPl T c + (j + 1)))) (Z.e ((mE_sF (by omega) (by omega)).tr (mE_sF (by omega) (by omega)))) (by omega) sF_s (by rw [sF_n (by omega), sF_n (by omega)]; exact h13) (fun _ => by rw [sF_n (by omega), sF_s])
      refine ⟨M', fun t ht => ?_, ((mE_sF (by omega) (by omega)).tr (mE_sF (by omega) (by omega))).tr E, f1, f2, f3, by rw [f4, sF_n (by omega), sF_n (by omega)]⟩
      obtain ⟨u, rfl⟩ : ∃ u, t = u + 2 := ⟨t - 2, by omega⟩
      obtain ⟨u2, u3, g2⟩ := g u (by omega)
      refine ⟨u2, by omega, ?_⟩
      rw [← g2, q207_8, M_g0_12, h12]
      (try simp only [bd_s])
      rw [m204 Z (by omega), kI_r, m206 Z, kI_r, decide_eq_true ⟨by omega, nk⟩, if_neg (by decide +kernel)]
      (try rw [M_g0_12, h12])
      (try simp only [bd_s])
      rw [M_g0_13, h13]
      (try simp only [bd_s])
      rw [nSub (by omega), show tPl T c + j - tPl T c = j by omega, if_pos (by rw [nLt (by omega) (by omega)]; exact q), M_g0_15, h15 (by omega)]
      (try simp only [bd_s])
      (try rw [M_g0_12, h12])
      (try simp only [bd_s])
      rw [m204 Z (by omega), kI_r, sj, nMul, nAdd, nSub (by omega), show 10 * vlK T c j + tB T (tPl T c + j) - 48 = vlK T c (j + 1) from by show _ = vlK T c j * 10 + (tB T (tPl T c + j) - 48); omega, q207_10, M_p0_15 he]
      (try simp only [bd_s])
      rw [M_g0_12]
      (try simp only [bd_s])
      have e12 : (uA M 0 (wr (M.1 0) 15 (Int32.ofNat (vlK T c (j + 1))))).1 0 12 = Int32.ofNat (tPl T c + j) := by rw [uA_s, wr_n (by omega)]; exact h12
      rw [e12, nAdd, M_p0_12 he]
      rfl
    · obtain ⟨M', g, E, f1, f2, f3, f4⟩ := ih (j + 1) (sF (sF M 15 (Int32.ofNat 0)) 12 (Int32.ofNat (tPl T c + (j + 1)))) (Z.e ((mE_sF (by omega) (by omega)).tr (mE_sF (by omega) (by omega)))) (by omega) sF_s (by rw [sF_n (by omega), sF_n (by omega)]; exact h13) (fun z => by omega)
      refine ⟨M', fun t ht => ?_, ((mE_sF (by omega) (by omega)).tr (mE_sF (by omega) (by omega))).tr E, f1, f2, f3, by rw [f4, sF_n (by omega), sF_n (by omega)]⟩
      obtain ⟨u, rfl⟩ : ∃ u, t = u + 3 := ⟨t - 3, by omega⟩
      obtain ⟨u2, u3, g2⟩ := g u (by omega)
      refine ⟨u2, by omega, ?_⟩
      rw [← g2, q207_8, M_g0_12, h12]
      (try simp only [bd_s])
      rw [m204 Z (by omega), kI_r, m206 Z, kI_r, decide_eq_true ⟨by omega, nk⟩, if_neg (by decide +kernel)]
      (try rw [M_g0_12, h12])
      (try simp only [bd_s])
      rw [M_g0_13, h13]
      (try simp only [bd_s])
      rw [nSub (by omega), show tPl T c + j - tPl T c = j by omega, if_neg (by rw [nLt (by omega) (by omega)]; exact q), q207_9, q207_10, M_p0_15 he]
      (try simp only [bd_s])
      rw [M_g0_12]
      (try simp only [bd_s])
      have e12 : (uA M 0 (wr (M.1 0) 15 (Int32.ofNat 0))).1 0 12 = Int32.ofNat (tPl T c + j) := by rw [uA_s, wr_n (by omega)]; exact h12
      rw [e12, nAdd, M_p0_12 he]
      rfl
theorem ck_sy {v k : Nat} (h : ck v = k) (hk : k = 59 ∨ k = 40 ∨ k = 41) : v = k := by
  unfold ck at h
  repeat' split at h
  all_goals omega
theorem ck_4 {v : Nat} (h : ck v = 4) : v ≠ 59 ∧ v ≠ 40 ∧ v ≠ 41 ∧ v ≠ 32 ∧ ¬ (97 ≤ v ∧ v ≤ 122) ∧ ¬ (48 ≤ v ∧ v ≤ 57) := by
  unfold ck at h
  repeat' split at h
  all_goals omega
/-- where a token may be looked for -/
def GO (T : dTok) (p c : Nat) : Prop := p ≤ tPl T c ∧ ∀ j, p ≤ j → j < tPl T c → tB T j = 32
theorem GO_nx {c : Nat} (Z : TOK T) (hc : c < tN T) : GO T (ee T c) (nx T c) := by
  unfold ee nx
  by_cases q : c + 1 < tN T
  · rw [if_pos q, if_pos q]
    obtain ⟨-, -, -, -, -, z6, z7, -⟩ := Z.2.1 c q
    exact ⟨z6, z7⟩
  · rw [if_neg q, if_neg q]
    have : c = tN T - 1 := by omega
    rw [this]
    have := Z.1.2.2.2.2.1
    exact ⟨by omega, fun j h1 h2 => by omega⟩
theorem GO_0 (Z : TOK T) : GO T 0 0 := ⟨Nat.zero_le _, fun j _ h => Z.2.2.1 j h⟩
/-- the next token -/
theorem m207 (he : e.1 ≤ b) (Z : RT T M) {p c : Nat} (hc : c < tN T) (G : GO T p c) (h12 : M.1 0 12 = Int32.ofNat p) : ∃ M', dN e (d + 2) 207 [.ref b] (ov TM 8 b M m) = some (.inl none, ov TM 8 b M' m) ∧ RC T M' c ∧ mE M M' ∧ M'.1 0 16 = M.1 0 16 := by
  have hb := Z.1.b hc
  have hE := Z.1.1.2.2.1
  have hPE : tPl T c ≤ tE T := by
    rcases Nat.lt_or_ge (c + 1) (tN T) with q | q
    · have := (Z.1.2.1 c q).2.2.1
      omega
    · have : c = tN T - 1 := by omega
      rw [this, Z.1.1.2.2.2.2.1]
      exact Nat.le_refl _
  have hs : ¬ (tPl T c < tE T ∧ tB T (tPl T c) = 32) := by
    intro z
    rcases Nat.lt_or_ge (c + 1) (tN T) with q | q
    · obtain ⟨z1, z2, z3, z4, -⟩ := Z.1.2.1 c q
      have := z4 0 (by omega)
      rw [Nat.add_zero, z.2, ck_s] at this
      omega
    · have : c = tN T - 1 := by omega
      rw [this, Z.1.1.2.2.2.2.1] at z
      omega
  have hG := G.1
  have g0 := m207_0 (e := e) (d := d) (m := m) he hPE hs (tPl T c - p) p M Z (by omega) h12 (fun i h1 h2 => G.2 i h1 h2)
  -- the fields at the token's begin
  have key : ∀ (X : bX), X = sF (sF M 12 (Int32.ofNat (tPl T c))) 13 (Int32.ofNat (tPl T c)) → RT T X ∧ mE M X ∧ X.1 0 12 = Int32.ofNat (tPl T c) ∧ X.1 0 13 = Int32.ofNat (tPl T c) ∧ X.1 0 16 = M.1 0 16 := by
    intro X hX
    have E : mE M X := by rw [hX]; exact (mE_sF (by omega) (by omega)).tr (mE_sF (by omega) (by omega))
    exact ⟨Z.e E, E, by rw [hX, sF_n (by omega), sF_s], by rw [hX, sF_s], by rw [hX, sF_n (by omega), sF_n (by omega)]⟩
  obtain ⟨X, hX⟩ : ∃ X, X = sF (sF M 12 (Int32.ofNat (tPl T c))) 13 (Int32.ofNat (tPl T c)) := ⟨_, rfl⟩
  obtain ⟨ZX, EX, x12, x13, x16⟩ := key X hX
  have start : ∀ t, runL e (dN e (d + 1)) 207 (t + (tPl T c - p) + 2) 0 [some (.ref b), none] [] (ov TM 8 b M m) = (if sn T (tPl T c) = nM1 then (pI e (ov TM 8 b X m) b 10 14 (Int32.ofNat 0)).bind fun m6 => runL e (dN e (d + 1)) 207 t 19 [none, none] [] m6 else runL e (dN e (d + 1)) 207 t 2 [some (.ref b), some (.int (sn T (tPl T c)))] [] (ov TM 8 b X m)) := by
    intro t
    have := g0 (t + 1)
    rw [show t + (tPl T c - p) + 2 = t + 1 + (tPl T c - p) + 1 by omega, this, q207_1, M_g0_12, sF_s]
    (try simp only [bd_s])
    rw [M_F13 he]
    (try simp only [bd_s])
    rw [← hX, M_g0_12, x12]
    (try simp only [bd_s])
    rw [m204 ZX (by omega), kI_r]
  rcases Nat.lt_or_ge (c + 1) (tN T) with q | q
  · obtain ⟨z1, z2, z3, z4, z5, z6, z7, z8⟩ := Z.1.2.1 c q
    have hee : ee T c = tPl T c + tL T c := if_pos q
    have sP : sn T (tPl T c) = Int32.ofNat (tB T (tPl T c)) := if_pos (by omega)
    have hB := Z.1.2.2.2 (tPl T c)
    have k0 := z4 0 (by omega)
    rw [Nat.add_zero] at k0
    by_cases c1 : tK T c = 1
    · -- a word
      have hq : ¬ (tPl T c + tL T c < tE T ∧ ck (tB T (tPl T c + tL T c)) = 1) := fun z => by
        have := z8 (Or.inl c1) z.1
        rw [c1] at this
        exact this z.2
      have g3 := m207_3 (e := e) (d := d) (m := m) he z3 hq (tL T c) (tPl T c) X ZX rfl x12 (fun i h1 h2 => by
        have := z4 (i - tPl T c) (by omega)
        rw [show tPl T c + (i - tPl T c) = i by omega] at this
        rw [this, c1])
      refine ⟨sF (sF X 12 (Int32.ofNat (tPl T c + tL T c))) 14 (Int32.ofNat (srt T c)), ?_, ⟨by rw [sF_n (by omega), sF_s, hee], by rw [sF_n (by omega), sF_n (by omega), x13], sF_s, fun hk => ?_, hc⟩, EX.tr ((mE_sF (by omega) (by omega)).tr (mE_sF (by omega) (by omega))), by rw [sF_n (by omega), sF_n (by omega), x16]⟩
      · refine en207 M_c0 fun t ht => ?_
        obtain ⟨u, rfl⟩ : ∃ u, t = (u + 4 + tL T c + 2) + (tPl T c - p) + 2 := ⟨t - (tPl T c - p) - 2 - 2 - tL T c - 4, by omega⟩
        rw [start, if_neg (by rw [sP, nEqM (by omega)]; exact id), q207_2, m205 ZX, kI_r, decide_eq_true ⟨by omega, by rw [k0, c1]⟩, if_neg (by decide +kernel)]
        show runL e (dN e (d + 1)) 207 (u + 4 + tL T c + 1) 3 _ [] _ = _
        rw [g3, q207_4, M_g0_12, sF_s]
        (try simp only [bd_s])
        rw [M_g0_13, sF_n (by omega), x13]
        (try simp only [bd_s])
        rw [nSub (by omega), show tPl T c + tL T c - tPl T c = tL T c by omega]
        by_cases q7 : 7 < tL T c
        · have es : srt T c = 4 := by
            have : kd T c = 4 := by unfold kd; rw [if_pos (Or.inl ⟨c1, q7⟩)]
            unfold srt
            rw [this]
            rfl
          rw [if_pos (by rw [nLt (by omega) (by omega)]; exact q7), q207_6, M_p0_14 he]
          (try simp only [bd_s])
          rw [q207_19, es]
          rfl
        · have es : srt T c = 1 := by
            have : kd T c = 1 := by unfold kd; rw [if_neg (by omega)]; exact c1
            unfold srt
            rw [this]
            rfl
          rw [if_neg (by rw [nLt (by omega) (by omega)]; exact q7), q207_5, q207_6, M_p0_14 he]
          (try simp only [bd_s])
          rw [q207_19, es]
          rfl
      · have : kd T c = 1 ∨ kd T c = 4 := by
          unfold kd
          split
          · exact Or.inr rfl
          · exact Or.inl c1
        omega
    · by_cases c2 : tK T c = 2
      · -- a number
        have hq : ¬ (tPl T c + tL T c < tE T ∧ ck (tB T (tPl T c + tL T c)) = 2) := fun z => by
          have := z8 (Or.inr c2) z.1
          rw [c2] at this
          exact this z.2
        have EX2 : mE X (sF X 15 (Int32.ofNat 0)) := mE_sF (by omega) (by omega)
        obtain ⟨M', g8, E8, f1, f2, f3, f4⟩ := m207_8 (e := e) (d := d) (m := m) he hc c2 rfl hq (tL T c) 0 (sF X 15 (Int32.ofNat 0)) (ZX.e EX2) (by omega) (by rw [sF_n (by omega)]; exact x12) (by rw [sF_n (by omega)]; exact x13) (fun _ => sF_s)
        refine ⟨sF M' 14 (Int32.ofNat (srt T c)), ?_, ⟨by rw [sF_n (by omega), f1, hee], by rw [sF_n (by omega), f2], sF_s, fun hk => by rw [sF_n (by omega), f3 (vl_b Z.1 hc hk).2.1], hc⟩, (EX.tr EX2).tr (E8.tr (mE_sF (by omega) (by omega))), by rw [sF_n (by omega), f4, sF_n (by omega), x16]⟩
        refine en207 M_c0 fun t ht => ?_
        obtain ⟨u, rfl⟩ : ∃ u, t = (u + 3 * tL T c + 10) + (tPl T c - p) + 2 := ⟨t - (tPl T c - p) - 2 - 10 - 3 * tL T c, by omega⟩
        obtain ⟨u2, u3, g9⟩ := g8 (u + 3 * tL T c + 8) (by omega)
        obtain ⟨u4, rfl⟩ : ∃ u4, u2 = u4 + 4 := ⟨u2 - 4, by omega⟩
        rw [start, if_neg (by rw [sP, nEqM (by omega)]; exact id), q207_2, m205 ZX, kI_r, decide_eq_false (by rw [k0, c2]; omega), if_pos (by decide +kernel), q207_7, m206 ZX, kI_r, decide_eq_true ⟨by omega, by rw [k0, c2]⟩, if_neg (by decide +kernel), M_p0_15 he]
        (try simp only [bd_s])
        show runL e (dN e (d + 1)) 207 (u + 3 * tL T c + 8) 8 [some (.ref b), none] [] (ov TM 8 b (sF X 15 (Int32.ofNat 0)) m) = _
        rw [g9, q207_11, M_g0_12, f1]
        (try simp only [bd_s])
        rw [M_g0_13, f2]
        (try simp only [bd_s])
        rw [nSub (by omega), show tPl T c + tL T c - tPl T c = tL T c by omega]
        by_cases q4 : 4 < tL T c
        · have es : srt T c = 4 := by
            have : kd T c = 4 := by unfold kd; rw [if_pos (Or.inr ⟨c2, q4⟩)]
            unfold srt
            rw [this]
            rfl
          rw [if_pos (by rw [nLt (by omega) (by omega)]; exact q4), q207_13, M_p0_14 he]
          (try simp only [bd_s])
          rw [q207_19, es]
          rfl
        · have es : srt T c = 2 := by
            have : kd T c = 2 := by unfold kd; rw [if_neg (by omega)]; exact c2
            unfold srt
            rw [this]
            rfl
          rw [if_neg (by rw [nLt (by omega) (by omega)]; exact q4), q207_12, q207_13, M_p0_14 he]
          (try simp only [bd_s])
          rw [q207_19, es]
          rfl
      · -- one letter
        have hL := z5 c1 c2
        have hkd : kd T c = tK T c := by unfold kd; rw [if_neg (by omega)]
        refine ⟨sF (sF X 14 (Int32.ofNat (srt T c))) 12 (Int32.ofNat (tPl T c + 1)), ?_, ⟨by rw [sF_s, hee, hL], by rw [sF_n (by omega), sF_n (by omega), x13], by rw [sF_n (by omega), sF_s], fun hk => by omega, hc⟩, EX.tr ((mE_sF (by omega) (by omega)).tr (mE_sF (by omega) (by omega))), by rw [sF_n (by omega), sF_n (by omega), x16]⟩
        have fin : ∀ t, runL e (dN e (d + 1)) 207 (t + 2) 18 [some (.ref b), none] [.int (Int32.ofNat (srt T c)), .ref b] (ov TM 8 b X m) = some (.inl none, ov TM 8 b (sF (sF X 14 (Int32.ofNat (srt T c))) 12 (Int32.ofNat (tPl T c + 1))) m) := by
          intro t
          have e12 : (uA X 0 (wr (X.1 0) 14 (Int32.ofNat (srt T c)))).1 0 12 = Int32.ofNat (tPl T c) := by rw [uA_s, wr_n (by omega)]; exact x12
          rw [q207_18, M_p0_14 he]
          (try simp only [bd_s])
          rw [M_g0_12, e12]
          (try simp only [bd_s])
          rw [nAdd, M_p0_12 he]
          (try simp only [bd_s])
          rw [q207_19]
          rfl
        refine en207 M_c0 fun t ht => ?_
        obtain ⟨u, rfl⟩ : ∃ u, t = (u + 20) + (tPl T c - p) + 2 := ⟨t - (tPl T c - p) - 2 - 20, by omega⟩
        rw [start, if_neg (by rw [sP, nEqM (by omega)]; exact id), q207_2, m205 ZX, kI_r, decide_eq_false (by rw [k0]; omega), if_pos (by decide +kernel), q207_7, m206 ZX, kI_r, decide_eq_false (by rw [k0]; omega), if_pos (by decide +kernel), q207_14, sP]
        rcases z1 with w | w | w | w | w | w
        · exact absurd w c1
        · exact absurd w c2
        · have hv : tB T (tPl T c) = 59 := ck_sy (k0.trans w) (by omega)
          have es : srt T c = 3 := by unfold srt; rw [hkd, w]; rfl
          rw [hv, if_pos (by trivial), ← es, fin]
        · have hv : tB T (tPl T c) = 40 := ck_sy (k0.trans w) (by omega)
          have es : srt T c = 5 := by unfold srt; rw [hkd, w]; rfl
          rw [hv, if_neg (by decide +kernel), q207_15, if_pos (by trivial), ← es, fin]
        · have hv : tB T (tPl T c) = 41 := ck_sy (k0.trans w) (by omega)
          have es : srt T c = 6 := by unfold srt; rw [hkd, w]; rfl
          rw [hv, if_neg (by decide +kernel), q207_15, if_neg (by decide +kernel), q207_16, if_pos (by trivial), ← es, fin]
        · obtain ⟨v1, v2, v3, -⟩ := ck_4 (k0.trans w)
          have es : srt T c = 4 := by unfold srt; rw [hkd, w]; rfl
          rw [if_neg (by rw [nEq (by omega) (by omega)]; exact v1), q207_15, if_neg (by rw [nEq (by omega) (by omega)]; exact v2), q207_16, if_neg (by rw [nEq (by omega) (by omega)]; exact v3), q207_17, ← es, fin]
  · -- the end
    have hcN : c = tN T - 1 := by omega
    have hP : tPl T c = tE T := by rw [hcN, Z.1.1.2.2.2.2.1]
    have hk0 : tK T c = 0 := by rw [hcN, Z.1.1.2.2.2.1]
    have hkd : kd T c = 0 := by unfold kd; rw [if_neg (by omega)]; exact hk0
    have es : srt T c = 0 := by unfold srt; rw [hkd]; rfl
    have sP : sn T (tPl T c) = nM1 := if_neg (by omega)
    have hee : ee T c = tE T := if_neg (by omega)
    refine ⟨sF X 14 (Int32.ofNat 0), ?_, ⟨by rw [sF_n (by omega), x12, hee, hP], by rw [sF_n (by omega), x13], by rw [sF_s, es], fun hk => by omega, hc⟩, EX.tr (mE_sF (by omega) (by omega)), by rw [sF_n (by omega), x16]⟩
    refine en207 M_c0 fun t ht => ?_
    obtain ⟨u, rfl⟩ : ∃ u, t = (u + 20) + (tPl T c - p) + 2 := ⟨t - (tPl T c - p) - 2 - 20, by omega⟩
    rw [start, if_pos sP, M_p0_14 he]
    (try simp only [bd_s])
    rw [q207_19]
    rfl
end
end

/-! ===== tokens are cut ===== -/
noncomputable section
theorem sg8_neg {v : Nat} (h1 : 128 ≤ v) (h2 : v < 256) : (sg8 v).toInt < 0 := by
  revert h1
  revert h2
  revert v
  decide +kernel
/-- the first p bytes are cut into N tokens -/
def CI (B K P L : Nat → Nat) (N p : Nat) : Prop := N ≤ p ∧
  (∀ i, i < N → (K i = 1 ∨ K i = 2 ∨ K i = 59 ∨ K i = 40 ∨ K i = 41 ∨ K i = 4) ∧ 1 ≤ L i ∧ P i + L i ≤ p ∧ (∀ j, j < L i → ck (B (P i + j)) = K i) ∧ (K i ≠ 1 → K i ≠ 2 → L i = 1)) ∧
  (∀ i, i + 1 < N → P i + L i ≤ P (i + 1) ∧ (∀ j, P i + L i ≤ j → j < P (i + 1) → B j = 32) ∧ (K i = 1 ∨ K i = 2 → ck (B (P i + L i)) ≠ K i)) ∧
  (∀ i, i + 1 = N → ∀ j, P i + L i ≤ j → j < p → B j = 32) ∧ (N = 0 → ∀ j, j < p → B j = 32) ∧ (0 < N → ∀ j, j < P 0 → B j = 32)
def IR (I : bX) (K P L : Nat → Nat) (N : Nat) : Prop := I.1 1 5 = Int32.ofNat N ∧ ∀ i, i < N → I.1 3 i = Int32.ofNat (K i) ∧ I.1 4 i = Int32.ofNat (P i) ∧ I.1 5 i = Int32.ofNat (L i)
theorem ck_32 {v : Nat} (h : ck v = 3) : v = 32 := by
  unfold ck at h
  repeat' split at h
  all_goals omega
theorem ck_v (v : Nat) : ck v = 1 ∨ ck v = 2 ∨ ck v = 59 ∨ ck v = 40 ∨ ck v = 41 ∨ ck v = 3 ∨ ck v = 4 := by
  unfold ck
  repeat' split
  all_goals omega
theorem ck_s : ck 32 = 3 := by decide
theorem CI.end {B K P L : Nat → Nat} {N n : Nat} (Z : CI B K P L N n) (hn : n ≤ 600) (hB : ∀ j, B j < 256) : TOK (B, fun i => if i = N then 0 else K i, fun i => if i = N then n else P i, fun i => if i = N then 1 else L i, N + 1, n) := by
  obtain ⟨z0, z1, z2, z3, z4, z5⟩ := Z
  refine ⟨⟨?_, ?_, hn, ?_, ?_, ?_⟩, fun i hi => ?_, fun j hj => ?_, hB⟩
  · show 1 ≤ N + 1
    omega
  · show N + 1 ≤ n + 1
    omega
  · show (if N + 1 - 1 = N then 0 else K (N + 1 - 1)) = 0
    rw [if_pos (by omega)]
  · show (if N + 1 - 1 = N then n else P (N + 1 - 1)) = n
    rw [if_pos (by omega)]
  · show (if N + 1 - 1 = N then 1 else L (N + 1 - 1)) = 1
    rw [if_pos (by omega)]
  · have hi' : i + 1 < N + 1 := hi
    obtain ⟨a1, a2, a3, a4, a5⟩ := z1 i (by omega)
    have eK : tK (B, fun i => if i = N then 0 else K i, fun i => if i = N then n else P i, fun i => if i = N then 1 else L i, N + 1, n) i = K i := if_neg (by omega)
    have eP : tPl (B, fun i => if i = N then 0 else K i, fun i => if i = N then n else P i, fun i => if i = N then 1 else L i, N + 1, n) i = P i := if_neg (by omega)
    have eL : tL (B, fun i => if i = N then 0 else K i, fun i => if i = N then n else P i, fun i => if i = N then 1 else L i, N + 1, n) i = L i := if_neg (by omega)
    rw [eK, eP, eL]
    refine ⟨a1, a2, a3, a4, a5, ?_, ?_, ?_⟩
    · show P i + L i ≤ (if i + 1 = N then n else P (i + 1))
      split
      · exact a3
      · exact (z2 i (by omega)).1
    · show ∀ j, P i + L i ≤ j → j < (if i + 1 = N then n else P (i + 1)) → B j = 32
      intro j h1 h2
      by_cases q : i + 1 = N
      · rw [if_pos q] at h2
        exact z3 i q j h1 h2
      · rw [if_neg q] at h2
        exact (z2 i (by omega)).2.1 j h1 h2
    · intro h1 h2
      show ck (B (P i + L i)) ≠ K i
      by_cases q : i + 1 = N
      · rw [z3 i q (P i + L i) (Nat.le_refl _) h2, ck_s]
        omega
      · exact (z2 i (by omega)).2.2 h1
  · have hj' : j < (if 0 = N then n else P 0) := hj
    show B j = 32
    by_cases q : 0 = N
    · rw [if_pos q] at hj'
      exact z4 q.symm j hj'
    · rw [if_neg q] at hj'
      exact z5 (by omega) j hj'
theorem CI.sp {B K P L : Nat → Nat} {N p : Nat} (Z : CI B K P L N p) (h : B p = 32) : CI B K P L N (p + 1) := by
  obtain ⟨z0, z1, z2, z3, z4, z5⟩ := Z
  refine ⟨by omega, fun i hi => ?_, z2, fun i hi j h1 h2 => ?_, fun hN j hj => ?_, z5⟩
  · obtain ⟨a1, a2, a3, a4, a5⟩ := z1 i hi
    exact ⟨a1, a2, by omega, a4, a5⟩
  · by_cases q : j = p
    · rw [q]; exact h
    · exact z3 i hi j h1 (by omega)
  · by_cases q : j = p
    · rw [q]; exact h
    · exact z4 hN j (by omega)
theorem CI.con {B K P L : Nat → Nat} {N p : Nat} (Z : CI B K P L N p) (hN : 0 < N) (hk : ck (B p) = 1 ∨ ck (B p) = 2) (h1 : ck (B p) = K (N - 1)) (h2 : p = P (N - 1) + L (N - 1)) : CI B K P (fun i => if i = N - 1 then L (N - 1) + 1 else L i) N (p + 1) := by
  obtain ⟨z0, z1, z2, z3, z4, z5⟩ := Z
  refine ⟨by omega, fun i hi => ?_, fun i hi => ?_, fun i hi j h3 h4 => ?_, fun hN' => by omega, z5⟩
  · obtain ⟨a1, a2, a3, a4, a5⟩ := z1 i hi
    by_cases q : i = N - 1
    · subst q
      show _ ∧ 1 ≤ (if N - 1 = N - 1 then L (N - 1) + 1 else _) ∧ P (N - 1) + (if N - 1 = N - 1 then L (N - 1) + 1 else _) ≤ p + 1 ∧ (∀ j, j < (if N - 1 = N - 1 then L (N - 1) + 1 else _) → _) ∧ (_ → _ → (if N - 1 = N - 1 then L (N - 1) + 1 else _) = 1)
      rw [if_pos rfl]
      refine ⟨a1, by omega, by omega, fun j hj => ?_, fun k1 k2 => by omega⟩
      by_cases q2 : j = L (N - 1)
      · rw [q2, ← h2]; exact h1
      · exact a4 j (by omega)
    · show _ ∧ 1 ≤ (if i = N - 1 then L (N - 1) + 1 else L i) ∧ P i + (if i = N - 1 then L (N - 1) + 1 else L i) ≤ p + 1 ∧ (∀ j, j < (if i = N - 1 then L (N - 1) + 1 else L i) → _) ∧ (_ → _ → (if i = N - 1 then L (N - 1) + 1 else L i) = 1)
      rw [if_neg q]
      exact ⟨a1, a2, by omega, a4, a5⟩
  · show P i + (if i = N - 1 then L (N - 1) + 1 else L i) ≤ _ ∧ (∀ j, P i + (if i = N - 1 then L (N - 1) + 1 else L i) ≤ j → _) ∧ (_ → ck (B (P i + (if i = N - 1 then L (N - 1) + 1 else L i))) ≠ _)
    rw [if_neg (by omega)]
    exact z2 i hi
  · have e1 : i = N - 1 := by omega
    subst e1
    have h3' : P (N - 1) + (if N - 1 = N - 1 then L (N - 1) + 1 else L (N - 1)) ≤ j := h3
    rw [if_pos rfl] at h3'
    omega
theorem CI.add {B K P L : Nat → Nat} {N p : Nat} (Z : CI B K P L N p) (h3 : ck (B p) ≠ 3) (hc : ¬ (0 < N ∧ (ck (B p) = 1 ∨ ck (B p) = 2) ∧ ck (B p) = K (N - 1) ∧ p = P (N - 1) + L (N - 1))) : CI B (fun i => if i = N then ck (B p) else K i) (fun i => if i = N then p else P i) (fun i => if i = N then 1 else L i) (N + 1) (p + 1) := by
  obtain ⟨z0, z1, z2, z3, z4, z5⟩ := Z
  have kv := ck_v (B p)
  refine ⟨by omega, fun i hi => ?_, fun i hi => ?_, fun i hi j h4 h5 => ?_, fun hN => by omega, fun _ j hj => ?_⟩
  · show ((if i = N then ck (B p) else K i) = 1 ∨ (if i = N then ck (B p) else K i) = 2 ∨ (if i = N then ck (B p) else K i) = 59 ∨ (if i = N then ck (B p) else K i) = 40 ∨ (if i = N then ck (B p) else K i) = 41 ∨ (if i = N then ck (B p) else K i) = 4) ∧ 1 ≤ (if i = N then 1 else L i) ∧ (if i = N then p else P i) + (if i = N then 1 else L i) ≤ p + 1 ∧ (∀ j, j < (if i = N then 1 else L i) → ck (B ((if i = N then p else P i) + j)) = (if i = N then ck (B p) else K i)) ∧ ((if i = N then ck (B p) else K i) ≠ 1 → (if i = N then ck (B p) else K i) ≠ 2 → (if i = N then 1 else L i) = 1)
    by_cases q : i = N
    · rw [if_pos q, if_pos q, if_pos q]
      refine ⟨by omega, Nat.le_refl _, Nat.le_refl _, fun j hj => ?_, fun _ _ => rfl⟩
      have : j = 0 := by omega
      rw [this, Nat.add_zero]
    · obtain ⟨a1, a2, a3, a4, a5⟩ := z1 i (by omega)
      rw [if_neg q, if_neg q, if_neg q]
      exact ⟨a1, a2, by omega, a4, a5⟩
  · show (if i = N then p else P i) + (if i = N then 1 else L i) ≤ (if i + 1 = N then p else P (i + 1)) ∧ (∀ j, (if i = N then p else P i) + (if i = N then 1 else L i) ≤ j → j < (if i + 1 = N then p else P (i + 1)) → B j = 32) ∧ ((if i = N then ck (B p) else K i) = 1 ∨ (if i = N then ck (B p) else K i) = 2 → ck (B ((if i = N then p else P i) + (if i = N then 1 else L i))) ≠ (if i = N then ck (B p) else K i))
    rw [if_neg (show ¬ i = N by omega), if_neg (show ¬ i = N by omega), if_neg (show ¬ i = N by omega)]
    obtain ⟨a1, a2, a3, a4, a5⟩ := z1 i (by omega)
    by_cases q : i + 1 = N
    · rw [if_pos q]
      refine ⟨a3, fun j h6 h7 => z3 i q j h6 h7, fun h6 h7 => ?_⟩
      have e1 : i = N - 1 := by omega
      subst e1
      by_cases q2 : P (N - 1) + L (N - 1) = p
      · rw [q2] at h7
        exact hc ⟨by omega, by omega, h7, q2.symm⟩
      · rw [z3 (N - 1) q _ (Nat.le_refl _) (by omega), ck_s] at h7
        omega
    · rw [if_neg q]
      exact z2 i (by omega)
  · have e1 : i = N := by omega
    have h4' : (if i = N then p else P i) + (if i = N then 1 else L i) ≤ j := h4
    rw [if_pos e1, if_pos e1] at h4'
    omega
  · have hj' : j < (if 0 = N then p else P 0) := hj
    by_cases q : 0 = N
    · rw [if_pos q] at hj'
      exact z4 q.symm j hj'
    · rw [if_neg q] at hj'
      exact z5 (by omega) j hj'
section
variable {e : dEnv} {d a : Nat} {I : bX} {m : dMem}
theorem n52 {v : Nat} (hv : v < 256) : dN e (d + 1) 52 [.int (sg8 v)] m = rI (Int32.ofNat (ck v)) m := by
  refine en52 fun t ht => ?_
  obtain ⟨u, rfl⟩ := fu 9 ht rfl
  unfold ck
  rcases Nat.lt_or_ge v 128 with h | h
  · rw [sg8_n h, q52_0]
    by_cases c1 : 97 ≤ v ∧ v ≤ 122
    · rw [if_neg (by rw [nLt (by omega) (by omega)]; omega), if_neg (by rw [nLt (by omega) (by omega)]; omega), if_pos c1]
    rw [if_neg c1]
    have s1 : runL e (dN e d) 52 (u + 8) 1 [some (.int (Int32.ofNat v))] [] m = rI (Int32.ofNat (if 48 ≤ v ∧ v ≤ 57 then 2 else if v = 59 ∨ v = 40 ∨ v = 41 then v else if v = 32 then 3 else 4)) m := by
      rw [q52_1]
      by_cases c2 : 48 ≤ v ∧ v ≤ 57
      · rw [if_neg (by rw [nLt (by omega) (by omega)]; omega), if_neg (by rw [nLt (by omega) (by omega)]; omega), if_pos c2]
      rw [if_neg c2]
      have s2 : runL e (dN e d) 52 (u + 7) 2 [some (.int (Int32.ofNat v))] [] m = rI (Int32.ofNat (if v = 59 ∨ v = 40 ∨ v = 41 then v else if v = 32 then 3 else 4)) m := by
        rw [q52_2]
        by_cases d1 : v = 59
        · rw [if_pos (by rw [d1]), q52_3, if_pos (Or.inl d1)]
        rw [if_neg (by rw [nEq (by omega) (by omega)]; exact d1)]
        by_cases d2 : v = 40
        · rw [if_pos (by rw [d2]), q52_3, if_pos (Or.inr (Or.inl d2))]
        rw [if_neg (by rw [nEq (by omega) (by omega)]; exact d2)]
        by_cases d3 : v = 41
        · rw [if_pos (by rw [d3]), q52_3, if_pos (Or.inr (Or.inr d3))]
        rw [if_neg (by rw [nEq (by omega) (by omega)]; exact d3), if_neg (by omega), q52_4]
        by_cases d4 : v = 32
        · rw [if_pos (by rw [d4]), q52_6, if_pos d4]
        · rw [if_neg (by rw [nEq (by omega) (by omega)]; exact d4), q52_5, q52_6, if_neg d4]
      by_cases c3 : v < 48
      · rw [if_pos (by rw [nLt (by omega) (by omega)]; exact c3), s2]
      · rw [if_neg (by rw [nLt (by omega) (by omega)]; exact c3), if_pos (by rw [nLt (by omega) (by omega)]; omega), s2]
    by_cases c4 : v < 97
    · rw [if_pos (by rw [nLt (by omega) (by omega)]; exact c4), s1]
    · rw [if_neg (by rw [nLt (by omega) (by omega)]; exact c4), if_pos (by rw [nLt (by omega) (by omega)]; omega), s1]
  · have hn := sg8_neg h hv
    have lt : ∀ k : Nat, k < 1000 → sg8 v < Int32.ofNat k := fun k hk => by
      rw [Int32.lt_iff_toInt_lt, nToI (by omega)]
      omega
    have ne : ∀ k : Nat, k < 1000 → ¬ sg8 v = Int32.ofNat k := fun k hk q => by
      rw [q, nToI (by omega)] at hn
      omega
    rw [q52_0, if_pos (lt 97 (by omega)), q52_1, if_pos (lt 48 (by omega)), q52_2, if_neg (ne 59 (by omega)), if_neg (ne 40 (by omega)), if_neg (ne 41 (by omega)), q52_4, if_neg (ne 32 (by omega)), q52_5, q52_6, if_neg (by omega), if_neg (by omega), if_neg (by omega), if_neg (by omega)]
theorem n50 {K P L : Nat → Nat} {N p k : Nat} (R : IR I K P L N) (hN : N ≤ 600) (hk : k ≤ 100) (hp : p ≤ 600) (hb : ∀ i, i < N → K i ≤ 100 ∧ P i + L i ≤ 600) : dN e (d + 1) 50 [.ref (a + 1), .int (Int32.ofNat k), .int (Int32.ofNat p)] (ov TI 6 a I m) = rI (bI (decide (0 < N ∧ (k = 1 ∨ k = 2) ∧ k = K (N - 1) ∧ p = P (N - 1) + L (N - 1)))) (ov TI 6 a I m) := by
  obtain ⟨r1, r2⟩ := R
  refine en50 I_c1 fun t ht => ?_
  obtain ⟨u, rfl⟩ := fu 9 ht rfl
  rw [q50_0, I_g1_5, r1]
  simp only [bd_s]
  by_cases c0 : N = 0
  · rw [if_pos (by rw [c0]), q50_1, decide_eq_false (by omega), rZ_0]
  rw [if_neg (by rw [nEq (by omega) (by omega)]; exact c0)]
  obtain ⟨b1, b2⟩ := hb (N - 1) (by omega)
  obtain ⟨e1, e2, e3⟩ := r2 (N - 1) (by omega)
  have s2 : (k = 1 ∨ k = 2) → runL e (dN e d) 50 (u + 8) 2 [some (.ref (a + 1)), some (.int (Int32.ofNat k)), some (.int (Int32.ofNat p))] [] (ov TI 6 a I m) = rI (bI (decide (0 < N ∧ (k = 1 ∨ k = 2) ∧ k = K (N - 1) ∧ p = P (N - 1) + L (N - 1)))) (ov TI 6 a I m) := by
    intro c1
    rw [q50_2]
    (try rw [I_r1_2])
    (try simp only [bd_s])
    (try rw [I_g1_5, r1])
    (try simp only [bd_s])
    rw [nSub (by omega), I_a3 (by omega), e1]
    (try simp only [bd_s])
    by_cases c2 : k = K (N - 1)
    · rw [if_pos (by rw [c2])]
      (try rw [I_r1_3])
      (try simp only [bd_s])
      (try rw [I_a4 (by omega), e2])
      (try simp only [bd_s])
      (try rw [I_r1_4])
      (try simp only [bd_s])
      (try rw [I_a5 (by omega), e3])
      (try simp only [bd_s])
      rw [nAdd]
      by_cases c3 : p = P (N - 1) + L (N - 1)
      · rw [if_pos (by rw [c3]), q50_4, decide_eq_true ⟨by omega, c1, c2, c3⟩, rZ_1]
      · rw [if_neg (by rw [nEq (by omega) (by omega)]; exact c3), q50_3, q50_4, decide_eq_false (fun z => c3 z.2.2.2), rZ_0]
    · rw [if_neg (by rw [nEq (by omega) (by omega)]; exact c2), q50_3, q50_4, decide_eq_false (fun z => c2 z.2.2.1), rZ_0]
  by_cases c1 : k = 1
  · rw [if_pos (by rw [c1]), s2 (Or.inl c1)]
  rw [if_neg (by rw [nEq (by omega) (by omega)]; exact c1)]
  by_cases c2 : k = 2
  · rw [if_pos (by rw [c2]), s2 (Or.inr c2)]
  rw [if_neg (by rw [nEq (by omega) (by omega)]; exact c2), q50_1, decide_eq_false (by omega), rZ_0]
/-- what cutting leaves alone -/
def frT (I I' : bX) : Prop := I'.1 0 = I.1 0 ∧ I'.1 2 = I.1 2 ∧ ∀ k, k ≠ 5 → I'.1 1 k = I.1 1 k
theorem frT.rf : frT I I := ⟨rfl, rfl, fun _ _ => rfl⟩
theorem frT.tr {I1 I2 : bX} (a : frT I I1) (b : frT I1 I2) : frT I I2 := ⟨b.1.trans a.1, b.2.1.trans a.2.1, fun k hk => (b.2.2 k hk).trans (a.2.2 k hk)⟩
theorem n51 {K P L : Nat → Nat} {N p k : Nat} (he : e.1 ≤ a) (R : IR I K P L N) (hN : N ≤ 600) : ∃ I', dN e (d + 1) 51 [.ref (a + 1), .int (Int32.ofNat k), .int (Int32.ofNat p)] (ov TI 6 a I m) = some (.inl none, ov TI 6 a I' m) ∧ IR I' (fun i => if i = N then k else K i) (fun i => if i = N then p else P i) (fun i => if i = N then 1 else L i) (N + 1) ∧ frT I I' := by
  obtain ⟨r1, r2⟩ := R
  refine ⟨uA (uA (uA (uA I 3 (wr (I.1 3) N (Int32.ofNat k))) 4 (wr (I.1 4) N (Int32.ofNat p))) 5 (wr (I.1 5) N (Int32.ofNat 1))) 1 (wr (I.1 1) 5 (Int32.ofNat (N + 1))), ?_, ⟨?_, fun i hi => ?_⟩, ?_, ?_, fun k hk => ?_⟩
  · refine en51 I_c1 fun t ht => ?_
    obtain ⟨u, rfl⟩ := fu 9 ht rfl
    rw [q51_0, I_g1_5, r1]
    (try simp only [bd_s])
    rw [if_pos (by rw [nLt (by omega) (by omega)]; omega), I_r1_2]
    (try simp only [bd_s])
    rw [I_s3 he (by omega)]
    (try simp only [bd_s])
    rw [I_r1_3]
    (try simp only [bd_s])
    rw [I_g1_5]
    simp (disch := omega) only [uA_n, r1]
    (try simp only [bd_s])
    rw [I_s4 he (by omega)]
    (try simp only [bd_s])
    rw [I_r1_4]
    (try simp only [bd_s])
    rw [I_g1_5]
    simp (disch := omega) only [uA_n, r1]
    (try simp only [bd_s])
    rw [I_s5 he (by omega)]
    (try simp only [bd_s])
    rw [I_g1_5]
    simp (disch := omega) only [uA_n, r1]
    (try simp only [bd_s])
    rw [nAdd, I_p1_5 he]
    (try simp only [bd_s])
    rw [q51_1]
    simp (disch := omega) only [uA_n]
  · rw [uA_s, wr_s]
  · simp (disch := omega) only [uA_n, uA_s]
    by_cases q : i = N
    · rw [q, wr_s, wr_s, wr_s, if_pos rfl, if_pos rfl, if_pos rfl]
      exact ⟨rfl, rfl, rfl⟩
    · rw [wr_n q, wr_n q, wr_n q, if_neg q, if_neg q, if_neg q]
      exact r2 i (by omega)
  · simp (disch := omega) only [uA_n]
  · simp (disch := omega) only [uA_n]
  · rw [uA_s, wr_n hk]
theorem n49_l {B : Nat → Nat} {n : Nat} (he : e.1 ≤ a) (hn : n ≤ 600) (hB : ∀ j, B j < 256) : ∀ (r p : Nat) (I : bX) (K P L : Nat → Nat) (N : Nat), p + r = n → CI B K P L N p → IR I K P L N → (∀ j, j < n → I.1 2 j = sg8 (B j)) → ∃ I' T, (∀ t, 3 * r + 3 ≤ t → runL e (dN e (d + 1)) 49 t 1 [some (.ref (a + 1)), some (.int (Int32.ofNat n)), some (.int (Int32.ofNat p)), none] [] (ov TI 6 a I m) = some (.inl none, ov TI 6 a I' m)) ∧ TKI T I' ∧ tB T = B ∧ tE T = n ∧ frT I I' := by
  intro r
  induction r with
  | zero =>
    intro p I K P L N hp Z R hb
    have hp' : p = n := by omega
    rw [hp'] at Z
    have hN := Z.1
    obtain ⟨I', g, R', F⟩ := n51 (e := e) (d := d) (m := m) (k := 0) (p := n) he R (by omega)
    refine ⟨I', (B, fun i => if i = N then 0 else K i, fun i => if i = N then n else P i, fun i => if i = N then 1 else L i, N + 1, n), fun t ht => ?_, ⟨Z.end hn hB, R'.1, R'.2, fun j hj => by rw [F.2.1]; exact hb j hj⟩, rfl, rfl, F⟩
    obtain ⟨u, rfl⟩ : ∃ u, t = u + 2 := ⟨t - 2, by omega⟩
    rw [q49_1, if_neg (by rw [nLt (by omega) (by omega)]; omega), q49_4, g, kV_r]
  | succ r ih =>
    intro p I K P L N hp Z R hb
    have hN := Z.1
    have kv := ck_v (B p)
    have g52 := n52 (e := e) (d := d) (m := ov TI 6 a I m) (hB p)
    have g50 := n50 (e := e) (d := d) (a := a) (m := m) (k := ck (B p)) (p := p) R (by omega) (by omega) (by omega) (fun i hi => by
      obtain ⟨a1, a2, a3, a4, a5⟩ := Z.2.1 i hi
      omega)
    by_cases c : 0 < N ∧ (ck (B p) = 1 ∨ ck (B p) = 2) ∧ ck (B p) = K (N - 1) ∧ p = P (N - 1) + L (N - 1)
    · rw [decide_eq_true c] at g50
      obtain ⟨c0, c1, c2, c3⟩ := c
      obtain ⟨e1, e2, e3⟩ := R.2 (N - 1) (by omega)
      have Z' := Z.con c0 c1 c2 c3
      have R' : IR (uA I 5 (wr (I.1 5) (N - 1) (Int32.ofNat (L (N - 1) + 1)))) K P (fun i => if i = N - 1 then L (N - 1) + 1 else L i) N := by
        refine ⟨by rw [uA_n (by omega)]; exact R.1, fun i hi => ?_⟩
        simp (disch := omega) only [uA_n, uA_s]
        by_cases q : i = N - 1
        · rw [q, wr_s, if_pos rfl]
          exact ⟨e1, e2, rfl⟩
        · rw [wr_n q, if_neg q]
          exact R.2 i hi
      obtain ⟨I', T, g, h1, h2, h3, h4⟩ := ih (p + 1) _ K P _ N (by omega) Z' R' (fun j hj => by rw [uA_n (by omega)]; exact hb j hj)
      refine ⟨I', T, fun t ht => ?_, h1, h2, h3, frT.tr (⟨uA_n (by omega), uA_n (by omega), fun k hk => by rw [uA_n (by omega)]⟩) h4⟩
      obtain ⟨u, rfl⟩ : ∃ u, t = u + 2 := ⟨t - 2, by omega⟩
      rw [q49_1, if_pos (by rw [nLt (by omega) (by omega)]; omega), I_r1_0]
      (try simp only [bd_s])
      rw [I_a2 (by omega), hb p (by omega)]
      (try simp only [bd_s])
      rw [g52, kI_r, g50, kI_r, if_neg (by decide +kernel), I_r1_4]
      (try simp only [bd_s])
      rw [I_g1_5, R.1]
      (try simp only [bd_s])
      rw [nSub (by omega), I_a5 (by omega), e3]
      (try simp only [bd_s])
      rw [nAdd, I_s5 he (by omega)]
      (try simp only [bd_s])
      rw [q49_3, nAdd, g u (by omega)]
    · rw [decide_eq_false c] at g50
      by_cases c3 : ck (B p) = 3
      · obtain ⟨I', T, g, h1, h2, h3, h4⟩ := ih (p + 1) I K P L N (by omega) (Z.sp (ck_32 c3)) R hb
        refine ⟨I', T, fun t ht => ?_, h1, h2, h3, h4⟩
        obtain ⟨u, rfl⟩ : ∃ u, t = u + 3 := ⟨t - 3, by omega⟩
        rw [q49_1, if_pos (by rw [nLt (by omega) (by omega)]; omega), I_r1_0]
        (try simp only [bd_s])
        rw [I_a2 (by omega), hb p (by omega)]
        (try simp only [bd_s])
        rw [g52, kI_r, g50, kI_r, if_pos (by decide +kernel), q49_2, if_pos (by rw [c3]), q49_3, nAdd, g u (by omega)]
      · obtain ⟨I1, g51, R1, F1⟩ := n51 (e := e) (d := d) (m := m) (k := ck (B p)) (p := p) he R (by omega)
        obtain ⟨I', T, g, h1, h2, h3, h4⟩ := ih (p + 1) I1 _ _ _ (N + 1) (by omega) (Z.add c3 c) R1 (fun j hj => by rw [F1.2.1]; exact hb j hj)
        refine ⟨I', T, fun t ht => ?_, h1, h2, h3, F1.tr h4⟩
        obtain ⟨u, rfl⟩ : ∃ u, t = u + 3 := ⟨t - 3, by omega⟩
        rw [q49_1, if_pos (by rw [nLt (by omega) (by omega)]; omega), I_r1_0]
        (try simp only [bd_s])
        rw [I_a2 (by omega), hb p (by omega)]
        (try simp only [bd_s])
        rw [g52, kI_r, g50, kI_r, if_pos (by decide +kernel), q49_2, if_neg (by rw [nEq (by omega) (by omega)]; exact c3), g51, kV_r, q49_3, nAdd, g u (by omega)]
/-- all tokens are cut at once; none is read yet -/
theorem n49 {B : Nat → Nat} {n : Nat} (he : e.1 ≤ a) (hI : hB TI 6 a I m) (hn : n ≤ 600) (hB : ∀ j, B j < 256) (hb : ∀ j, j < n → I.1 2 j = sg8 (B j)) : ∃ I' T, dN e (d + 2) 49 [.ref (a + 1), .int (Int32.ofNat n)] m = some (.inl none, ov TI 6 a I' m) ∧ TKI T I' ∧ tB T = B ∧ tE T = n ∧ I'.1 0 = I.1 0 ∧ I'.1 1 6 = nM1 ∧ I'.1 1 1 = I.1 1 1 := by
  have hm := ov_self hI
  have R0 : IR (uA I 1 (wr (wr (I.1 1) 5 (Int32.ofNat 0)) 6 nM1)) (fun _ => 0) (fun _ => 0) (fun _ => 0) 0 := ⟨by rw [uA_s, wr_n (by omega), wr_s], fun i hi => absurd hi (Nat.not_lt_zero _)⟩
  have Z0 : CI B (fun _ => 0) (fun _ => 0) (fun _ => 0) 0 0 := ⟨Nat.le_refl _, fun i hi => absurd hi (Nat.not_lt_zero _), fun i hi => absurd hi (Nat.not_lt_zero _), fun i hi j h1 h2 => absurd h2 (Nat.not_lt_zero _), fun _ j hj => absurd hj (Nat.not_lt_zero _), fun _ j hj => absurd hj (Nat.not_lt_zero _)⟩
  obtain ⟨I', T, g, h1, h2, h3, h4⟩ := n49_l (e := e) (d := d) (m := m) he hn hB n 0 _ _ _ _ 0 (by omega) Z0 R0 (fun j hj => by rw [uA_n (by omega)]; exact hb j hj)
  refine ⟨I', T, ?_, h1, h2, h3, by rw [h4.1, uA_n (by omega)], by rw [h4.2.2 6 (by omega), uA_s, wr_s], by rw [h4.2.2 1 (by omega), uA_s, wr_n (by omega), wr_n (by omega)]⟩
  refine en49 (by rw [← hm]; exact I_c1) fun t ht => ?_
  obtain ⟨u, rfl⟩ := fu 9 ht rfl
  conv => lhs; rw [← hm]
  rw [q49_0, I_p1_5 he]
  (try simp only [bd_s])
  rw [I_p1_6 he, uA_s, uA_uA]
  (try simp only [bd_s])
  exact g _ (by omega)
end
end

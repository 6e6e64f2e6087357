/-! ===== changes on both sides: the history ===== -/
noncomputable section
section
variable {e : dEnv} {x C S0 YB n c Y Y' : Nat} {m0 m m1 : dMem} {R I H S M : bX} {Ar : Nat → bX} {l : List Nat} {cj rj : Nat} {as : List Value} {ks : Nat → Nat} {v : Int32} {s' : sV}
theorem kp_0k {k : Nat} (h0 : k ≠ 0) (h5 : k ≠ 5) : (uA (kpM (mT M 0) c) 2 s').1 0 k = M.1 0 k := by
  unfold kpM
  rw [uA_n (by omega), uA_n (by omega), uA_s, wr_n h5, mT_0k h0]
theorem kp_i {i : Nat} (h0 : i ≠ 0) (h2 : i ≠ 2) (h3 : i ≠ 3) : (uA (kpM (mT M 0) c) 2 s').1 i = M.1 i := by
  unfold kpM
  rw [uA_n h2, uA_n h3, uA_n h0, mT_n h0]
theorem kp_3 : (uA (kpM (mT M 0) c) 2 s').1 3 = if c = 8 then dCp (M.1 2) (dCp (M.1 3) (M.1 3) 315 0 2205) 0 2205 315 else dCp (M.1 2) (M.1 3) 0 (315 * c) 315 := by
  unfold kpM kpR
  rw [uA_n (by omega), uA_s, mT_n (by omega), mT_n (by omega)]
theorem STO_kp8 {i : Nat} (hi : i < 7) : ∀ j, j < 315 → STO (uA (kpM (mT M 0) 8) 2 s') i j = STO M (i + 1) j := by
  intro j hj
  unfold STO
  rw [kp_3, if_pos rfl]
  unfold dCp
  rw [if_neg (by omega), if_pos (by omega), show 315 + (315 * i + j - 0) = 315 * (i + 1) + j by omega]
theorem STO_kp7 : ∀ j, j < 315 → STO (uA (kpM (mT M 0) 8) 2 s') 7 j = M.1 2 j := by
  intro j hj
  unfold STO
  rw [kp_3, if_pos rfl]
  unfold dCp
  rw [if_pos (by omega), show 0 + (315 * 7 + j - 2205) = j by omega]
theorem STO_kpi {i : Nat} (hc : c < 8) (hi : i < c) : ∀ j, j < 315 → STO (uA (kpM (mT M 0) c) 2 s') i j = STO M i j := by
  intro j hj
  unfold STO
  rw [kp_3, if_neg (by omega)]
  unfold dCp
  rw [if_neg (by omega)]
theorem STO_kpc (hc : c < 8) : ∀ j, j < 315 → STO (uA (kpM (mT M 0) c) 2 s') c j = M.1 2 j := by
  intro j hj
  unfold STO
  rw [kp_3, if_neg (by omega)]
  unfold dCp
  rw [if_pos (by omega), show 0 + (315 * c + j - 315 * c) = j by omega]
theorem STO_kps {i : Nat} (hc : c ≤ 8) (hi : 8 ≤ i) : ∀ j, j < 315 → STO (uA (kpM (mT M 0) c) 2 s') i j = STO M i j := by
  intro j hj
  unfold STO
  rw [kp_3]
  by_cases q : c = 8
  · rw [if_pos q]
    unfold dCp
    rw [if_neg (by omega), if_neg (by omega)]
  · rw [if_neg q]
    unfold dCp
    rw [if_neg (by omega)]
theorem pair_c (Z : REL x m0 C S0 YB m R I H S Ar M l) (K : HisOK H n c) (k5 : M.1 0 5 = Int32.ofNat c) (hi : ∀ i, i < c → ∃ Y, Y ≤ YB ∧ OKA Y (Ar (3 + (n + 8 - c + i) % 8)) (M.1 1) (STO M i)) (rl : R.1 0 6 = Int32.ofNat 1) (ml : M.1 0 1 = Int32.ofNat 1) (hY : Y ≤ YB) (W : OKA Y (Ar 0) (M.1 1) (M.1 2)) (hC : dN e 19 cj (.ref x :: as) m = rI v m1) (G : Chg x R I H S Ar n c Y' (M.1 1) s' m m1) (hY' : Y' ≤ YB + 50) (hR : ∀ m', dN e 20 rj (.ref (x + 261) :: as) (ov TM 8 (x + 261) M m') = rI v (ov TM 8 (x + 261) (uA (kpM (mT M 0) c) 2 s') m')) : PAIR e x m0 C S0 YB cj rj as ks m := by
  obtain ⟨z1, z2, z3, z4, z5, z6, z7, z8⟩ := Z
  obtain ⟨B', A', g1, g2, g3, g4, g5⟩ := G
  obtain ⟨q1, q2, q3, q4⟩ := K
  have o : ∀ q, q < x ∨ x + 259 ≤ q → m1.1 q = m.1 q := g4
  have hA0 : seA (seA Ar (3 + n) B') 0 A' 0 = A' := seA_s _ _ _
  have hAn : seA (seA Ar (3 + n) B') 0 A' (3 + n) = B' := by rw [seA_n (by omega), seA_s]
  have hAo : ∀ i, i ≠ 0 → i ≠ 3 + n → seA (seA Ar (3 + n) B') 0 A' i = Ar i := fun i h1 h2 => by rw [seA_n h1, seA_n h2]
  have cnd : CND (YB + 50) R I (remH H n c) S (seA (seA Ar (3 + n) B') 0 A') (uA (kpM (mT M 0) c) 2 s') := by
    obtain ⟨⟨k, B, b1, b2, b3, b4, b5⟩, w2, w3, w4, w5, w6⟩ := z8
    refine ⟨⟨k, B, b1, b2, (kp_0k (by omega) (by omega)).trans b3, b4, fun j hj => ⟨(b5 j hj).1, by rw [kp_i (by omega) (by omega) (by omega)]; exact (b5 j hj).2⟩⟩, by rw [kp_0k (by omega) (by omega)]; exact w2, by rw [kp_0k (by omega) (by omega)]; exact w3, Or.inr ⟨rl, by rw [kp_0k (by omega) (by omega)]; exact ml, Y', hY', ?_⟩, ?_, fun k hk => ?_⟩
    · rw [hA0, kp_i (by omega) (by omega) (by omega), uA_s]
      exact g3
    · refine ⟨(n + 1) % 8, min (c + 1) 8, ⟨?_, by omega, ?_, by omega⟩, ?_, fun i hic => ?_⟩
      · unfold remH
        rw [uA_s, wr_n (by omega), wr_s]
      · unfold remH
        rw [uA_s, wr_s]
      · unfold kpM
        rw [uA_n (by omega), uA_n (by omega), uA_s, wr_s]
        by_cases q : c = 8
        · rw [if_pos q, show min (c + 1) 8 = 8 by omega]
        · rw [if_neg q, show min (c + 1) 8 = c + 1 by omega]
      · rw [kp_i (by omega) (by omega) (by omega)]
        by_cases q : c = 8
        · subst q
          have e8 : min (8 + 1) 8 = 8 := by omega
          rw [e8] at hic ⊢
          by_cases q7 : i = 7
          · subst q7
            rw [show ((n + 1) % 8 + 8 - 8 + 7) % 8 = n by omega, hAn]
            exact ⟨Y, by omega, OKA_ag (fun _ _ => rfl) STO_kp7 (OKA_eq g2 W)⟩
          · obtain ⟨Y1, y1, y2⟩ := hi (i + 1) (by omega)
            rw [show ((n + 1) % 8 + 8 - 8 + i) % 8 = (n + 8 - 8 + (i + 1)) % 8 by omega, hAo _ (by omega) (by omega)]
            exact ⟨Y1, by omega, OKA_ag (fun _ _ => rfl) (STO_kp8 (by omega)) y2⟩
        · rw [show min (c + 1) 8 = c + 1 by omega] at hic ⊢
          by_cases q7 : i = c
          · subst q7
            rw [show ((n + 1) % 8 + 8 - (i + 1) + i) % 8 = n by omega, hAn]
            exact ⟨Y, by omega, OKA_ag (fun _ _ => rfl) (STO_kpc (by omega)) (OKA_eq g2 W)⟩
          · obtain ⟨Y1, y1, y2⟩ := hi i (by omega)
            rw [show ((n + 1) % 8 + 8 - (c + 1) + i) % 8 = (n + 8 - c + i) % 8 by omega, hAo _ (by omega) (by omega)]
            exact ⟨Y1, by omega, OKA_ag (fun _ _ => rfl) (STO_kpi (by omega) (by omega)) y2⟩
    · rw [kp_i (by omega) (by omega) (by omega), kp_i (by omega) (by omega) (by omega), hAo _ (by omega) (by omega)]
      rcases w6 k hk with ⟨a, b⟩ | ⟨a, b, Y1, y1, y2⟩
      · exact Or.inl ⟨a, b⟩
      · exact Or.inr ⟨a, b, Y1, by omega, OKA_ag (fun _ _ => rfl) (STO_kps q4 (by omega)) y2⟩
  refine pair_val hC (fun q hq => (o q (by omega)).trans (z1 q hq)) g1 (hX_mem z3 (fun q hq => o q (by omega)) (by rw [g5]; exact Nat.le_refl _) (by rw [g5]; omega) (by rw [g5]; omega)) (hB_mem z4 (fun i hi => o _ (by omega))) ?_ ?_ (fun m' _ => ⟨_, hR m', ?_, yT_ag (kp_i (by omega) (by omega) (by omega)) (kp_0k (by omega) (by omega)) z5, cnd⟩)
  · obtain ⟨f, z⟩ := z6
    exact ⟨f, (o _ (by omega)).trans z⟩
  · obtain ⟨f, z⟩ := z7
    exact ⟨f, (o _ (by omega)).trans z⟩
  · unfold kpM
    rw [uA_n (by omega), uA_n (by omega), uA_s, wr_n (by omega), mT_00]
end
end

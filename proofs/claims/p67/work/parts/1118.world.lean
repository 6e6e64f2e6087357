/-! ===== the World whole (printed by wip/p67/wg6.py) ===== -/
noncomputable section
theorem OKW_0 {X : wX} {h : sV} {S P K R yr : Nat} (XX : XF X S P K R yr) (TT : TLD h S P K R) (hK : K ≤ 3) (hR : R ≤ 3) (rows : ∀ c, c < K → X 1 c = h (94 + c) ∧ X 2 c = h (102 + c) ∧ X 4 c = h (110 + c)) (rows2 : ∀ c, c < R → X 3 c = h (40 + c)) (y1 : 1900 ≤ yr) (y2 : yr ≤ 2500) : OKW 0 2500 X h (wr zS 0 (Int32.ofNat yr)) ∧ SIN (wr zS 0 (Int32.ofNat yr)) ∧ INV h (wr zS 0 (Int32.ofNat yr)) := by
  obtain ⟨x1, x2, x3, x4, x5, x6, x7⟩ := XX
  obtain ⟨t1, t2, t3, t4, t5, -⟩ := TT
  have e0 : wr zS 0 (Int32.ofNat yr) 0 = Int32.ofNat yr := wr_s _ _ _
  have e1 : wr zS 0 (Int32.ofNat yr) 1 = Int32.ofNat 0 := wr_n (by omega)
  have e2 : wr zS 0 (Int32.ofNat yr) 2 = Int32.ofNat 0 := wr_n (by omega)
  have nb0 : nbS (wr zS 0 (Int32.ofNat yr)) = 0 := by unfold nbS; rw [e1]; exact nN_o (by omega)
  have nl0 : nlS (wr zS 0 (Int32.ofNat yr)) = 0 := by unfold nlS; rw [e2]; exact nN_o (by omega)
  have hk : nN (h 2) = K := by rw [t4]; exact nN_o (by omega)
  have hr : nN (h 3) = R := by rw [t5]; exact nN_o (by omega)
  refine ⟨⟨nb0, ⟨x5.trans e0.symm, x6.trans e1.symm, x7.trans e2.symm, ⟨x1.trans t2.symm, x2.trans t3.symm, x3.trans t4.symm, x4.trans t5.symm, fun c hc => rows c (by omega), fun c hc => rows2 c (by omega)⟩, fun k hk => by omega, fun i hi => by omega⟩, ⟨?_, ?_, ?_, fun k hk => by omega, fun i hi => by omega, fun i j _ hj => by omega⟩, t1⟩, fun k hk => by omega, fun i j _ hj => by omega, fun k hk => by omega, fun r _ => ?_⟩
  · rw [e1]; exact okI_of (Nat.le_refl _) (by omega) (by omega)
  · rw [e2]; exact okI_of (Nat.le_refl _) (by omega) (by omega)
  · rw [e0]; exact okI_of (by omega) y2 (by omega)
  · unfold lonN
    rw [nb0]
    exact Nat.zero_le _
section
variable {e : dEnv} {d x0 b0 l0 N w : Nat} {f : Nat → Int32} {m : dMem}
theorem w_world (Dr : DRW b0 l0 N f 0 m) (dg : hDig e x0 m) (st : hSt e x0 m) (he : e.1 ≤ x0) (hb : x0 ≤ b0) (hbl : b0 < m.2.1) (hl : l0 < m.2.1) (hw : w = m.2.1) : ∃ m' a bb l nb ad h s y n S P K R yr, dN e (d + 10) 167 [.ref w, .ref b0] (nO m 12 (dNf 12) (dDef 12)) = some (.inl none, m') ∧ WG e x0 b0 l0 N f a (w + 7) bb (w + 200) (m.2.2 + 8000) l nb ad (WST e nb (2500 + y) ad h s) m' ∧ ad 0 = w ∧ RNG h s S P K R yr ∧ PT l s h y n ∧ n ≤ 30 ∧ l.length ≤ 450 ∧ a ≤ 160 ∧ y ≤ 20 ∧ nb ≤ 9 := by
  obtain ⟨S, P, K, R, yr, m1, s1, s2, p1, p2, k1, k2, r1, r2, y1, y2, hc, I1, g1⟩ := w_beg (d := d) Dr dg st he hb hbl hl hw
  obtain ⟨m2, I2, g2⟩ := told (d := d) I1 k2 r2
  have hw0 : ad0 w (w + 7) 0 = w := rfl
  rw [hw0] at g2
  obtain ⟨a, bb, l, h, X, G, XX, TT, rows, rows2, PP, hl2, ha⟩ := I2
  obtain ⟨Z, V1, V2⟩ := OKW_0 XX TT k2 r2 rows rows2 y1 y2
  have G2 := G.wW (W' := WST e 0 2500 (ad0 w (w + 7)) h (wr zS 0 (Int32.ofNat yr))) ⟨G.w.1, G.w.2.1, G.w.2.2.1, V1, V2, X, G.w.2.2.2, Z⟩ WST_fr
  obtain ⟨n, m3, g3, -, n9, G3⟩ := wg_draw (d := d) G2 (lo := 0) (hi := 9) (by omega) (by omega) (by omega)
  have I3 : IB e x0 b0 l0 N f (w + 7) w h S P K R yr (K + R) (w + 62) (m.2.2 + 5922) 0 m3 := ⟨_, bb, l, _, _, G3.le (by omega) (by omega), rfl, ⟨TT, s1, s2, p1, p2, k1, k2, r1, r2, wr_s _ _ _, y1, by omega⟩, PP, by omega, by omega⟩
  obtain ⟨m4, j, -, j9, I4, g4⟩ := boxes_t (d := d) n 0 m3 I3 (by omega) (by omega)
  obtain ⟨a4, bb4, l4, ad4, s4, G4, hw4, Q4, PP4, hl4, ha4⟩ := I4
  obtain ⟨n2, m5, g5, -, n5, G5⟩ := wg_draw (d := d) G4 (lo := 0) (hi := 5) (by omega) (by omega) (by omega)
  have I5 : IHc e x0 b0 l0 N f (w + 7) w h S P K R (K + R + j) (w + 80) (m.2.2 + 6057) j 0 m5 := ⟨_, bb4, l4, ad4, s4, yr, 0, G5.le (by omega) (by omega), hw4, Q4, PP4, by omega, by omega, by omega⟩
  have last : ∃ m6 j2, j2 ≤ 5 ∧ IHc e x0 b0 l0 N f (w + 7) w h S P K R (K + R + j) (w + 80) (m.2.2 + 6057) j j2 m6 ∧ ∀ t, runL e (dN e (d + 9)) 167 (t + 20 * n2 + 2) 23 [some (.ref w), some (.ref b0), some (.int (Int32.ofNat n2)), none, none, none, none, none] [] m5 = some (.inl none, m6) := by
    by_cases hj : 0 < j
    · obtain ⟨m6, j2, q1, q2, q3⟩ := chgs_t (d := d) hj (by omega) n2 0 m5 I5 (by omega)
      exact ⟨m6, j2, q1, q2, q3⟩
    · have j0 : j = 0 := by omega
      refine ⟨m5, 0, by omega, I5, fun t => ?_⟩
      have hnb := f_nb G5.w
      rw [hw4] at hnb
      by_cases q : 0 < n2
      · rw [q167_23, if_pos (by rw [nLt (by omega) (by omega)]; exact q), hnb, bd_s, if_neg (by rw [nLt (by omega) (by omega)]; omega), q167_31]
      · rw [q167_23, if_neg (by rw [nLt (by omega) (by omega)]; exact q), q167_31]
  obtain ⟨m6, j2, j5, I6, g6⟩ := last
  obtain ⟨a6, bb6, l6, ad6, s6, yr6, y6, G6, hw6, Q6, PP6, hl6, ha6, hy6⟩ := I6
  refine ⟨m6, a6, bb6, l6, j, ad6, h, s6, y6, _, S, P, K, R, yr6, ?_, G6.le (by omega) (by omega), hw6, Q6, PP6, by omega, by omega, by omega, by omega, j9⟩
  refine en167 hc fun t ht => ?_
  obtain ⟨u, rfl⟩ : ∃ u, t = u + 1000 := ⟨t - 1000, by omega⟩
  obtain ⟨t1, a1, b1⟩ := g1 (u + 995)
  obtain ⟨u1, rfl⟩ : ∃ v, t1 = v + 50 := ⟨t1 - 50, by omega⟩
  obtain ⟨t2, a2, b2⟩ := g2 u1
  obtain ⟨u2, rfl⟩ : ∃ v, t2 = v + 5 * n + 1 + 1 := ⟨t2 - (5 * n + 2), by omega⟩
  obtain ⟨t3, a3, b3⟩ := g4 u2
  obtain ⟨u3, rfl⟩ : ∃ v, t3 = v + 20 * n2 + 2 + 1 := ⟨t3 - (20 * n2 + 3), by omega⟩
  rw [b1, b2, q167_16, g3, kI_r, b3, q167_22, g5, kI_r, g6]
end
end

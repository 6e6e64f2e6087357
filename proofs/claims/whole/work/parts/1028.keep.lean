/-! ===== undo, save, restore on both sides ===== -/
noncomputable section
section
variable {e : dEnv} {x C S0 YB n c Y : Nat} {m0 m m1 : dMem} {R I H S M R' I' H' S' : bX} {Ar Ar' : Nat → bX} {l : List Nat} {cj rj : Nat} {as : List Value} {ks : Nat → Nat} {v : Int32}
theorem pair_frm (Z : REL x m0 C S0 YB m R I H S Ar M l) (hC : dN e 19 cj (.ref x :: as) m = rI v m1) (G : hSys x R' I' H' S' Ar' m1) (F : frm x m m1) (hR : ∀ m', ∃ M', dN e 20 rj (.ref (x + 261) :: as) (ov TM 8 (x + 261) M m') = rI v (ov TM 8 (x + 261) M' m') ∧ M'.1 0 0 = Int32.ofNat 0 ∧ M'.1 7 = M.1 7 ∧ M'.1 0 21 = M.1 0 21 ∧ CND (YB + 50) R' I' H' S' Ar' M') : PAIR e x m0 C S0 YB cj rj as ks m := by
  obtain ⟨z1, z2, z3, z4, z5, z6, z7, z8⟩ := Z
  obtain ⟨g4, g5⟩ := F
  have o : ∀ q, q < x ∨ x + 259 ≤ q → m1.1 q = m.1 q := g4
  refine pair_val hC (fun q hq => (o q (by omega)).trans (z1 q hq)) G (hX_mem z3 (fun q hq => o q (by omega)) (by rw [g5]; exact Nat.le_refl _) (by rw [g5]; omega) (by rw [g5]; omega)) (hB_mem z4 (fun i hi => o _ (by omega))) ?_ ?_ (fun m' _ => ?_)
  · obtain ⟨f, z⟩ := z6
    exact ⟨f, (o _ (by omega)).trans z⟩
  · obtain ⟨f, z⟩ := z7
    exact ⟨f, (o _ (by omega)).trans z⟩
  · obtain ⟨M', r1, r2, r3, r4, r5⟩ := hR m'
    exact ⟨M', r1, r2, yT_ag r3 r4 z5, r5⟩
/-- the reference with rows out of a store -/
def rsM (M : bX) (c p : Nat) : bX := uA (uA (mT M 0) 0 (wr ((mT M 0).1 0) 5 (Int32.ofNat c))) 2 (dCp (M.1 3) (M.1 2) p 0 315)
theorem rsM_0k {p k : Nat} (h0 : k ≠ 0) (h5 : k ≠ 5) : (rsM M c p).1 0 k = M.1 0 k := by
  unfold rsM
  rw [uA_n (by omega), uA_s, wr_n h5, mT_0k h0]
theorem rsM_00 {p : Nat} : (rsM M c p).1 0 0 = Int32.ofNat 0 := by
  unfold rsM
  rw [uA_n (by omega), uA_s, wr_n (by omega), mT_00]
theorem rsM_05 {p : Nat} : (rsM M c p).1 0 5 = Int32.ofNat c := by
  unfold rsM
  rw [uA_n (by omega), uA_s, wr_s]
theorem rsM_i {p i : Nat} (h0 : i ≠ 0) (h2 : i ≠ 2) : (rsM M c p).1 i = M.1 i := by
  unfold rsM
  rw [uA_n h2, uA_n h0, mT_n h0]
theorem rsM_2 {i : Nat} : ∀ j, j < 315 → (rsM M c (315 * i)).1 2 j = STO M i j := by
  intro j hj
  unfold rsM STO
  rw [uA_s]
  unfold dCp
  rw [if_pos (by omega), Nat.sub_zero]
theorem rs_cnd {A' : bX} {i : Nat} (Z : CND YB R I H S Ar M) (hH : HIS YB H' (seA Ar 0 A') (rsM M c (315 * i))) (hY : Y ≤ YB) (W : OKA Y A' (M.1 1) (STO M i)) : CND YB R I H' S (seA Ar 0 A') (rsM M c (315 * i)) := by
  obtain ⟨⟨k, B, b1, b2, b3, b4, b5⟩, w2, w3, w4, w5, w6⟩ := Z
  have W' : OKA Y A' ((rsM M c (315 * i)).1 1) ((rsM M c (315 * i)).1 2) := by
    rw [rsM_i (by omega) (by omega)]
    exact OKA_ag (fun _ _ => rfl) rsM_2 W
  refine ⟨⟨k, B, b1, b2, (rsM_0k (by omega) (by omega)).trans b3, b4, fun j hj => ⟨(b5 j hj).1, by rw [rsM_i (by omega) (by omega)]; exact (b5 j hj).2⟩⟩, by rw [rsM_0k (by omega) (by omega)]; exact w2, by rw [rsM_0k (by omega) (by omega)]; exact w3, ?_, hH, SLO_ag (rsM_i (by omega) (by omega)) (fun j _ => by rw [rsM_i (by omega) (by omega)]) (fun j _ => by rw [rsM_i (by omega) (by omega)]) (fun i h1 h2 => seA_n (by omega)) w6⟩
  rcases w4 with ⟨a, b, u⟩ | ⟨a, b, -⟩
  · exact Or.inl ⟨a, by rw [rsM_0k (by omega) (by omega)]; exact b, W'.2.1.1⟩
  · exact Or.inr ⟨a, by rw [rsM_0k (by omega) (by omega)]; exact b, Y, hY, by rw [seA_s]; exact W'⟩
theorem pr61 (he : e.1 ≤ x) (Z : REL x m0 C S0 YB m R I H S Ar M l) : PAIR e x m0 C S0 YB 148 302 [] (ks1 1) m := by
  obtain ⟨n, c, K, k5, hi⟩ := Z.2.2.2.2.2.2.2.2.2.2.2.1
  cases c with
  | zero => exact pair_e Z (E := 1) (b148_1 (d := 11) Z.2.1 K) (by decide) (by decide) (fun m' => m302_1 (d := 17) (by omega) k5)
  | succ c =>
    have c8 := K.2.2.2
    obtain ⟨m1, A', g, G, E, F⟩ := b148_0 (d := 11) Z.2.1 K (by omega)
    obtain ⟨Y, y1, y2⟩ := hi c (by omega)
    rw [show (n + 8 - (c + 1) + c) % 8 = (n + 7) % 8 by omega] at y2
    have W := OKA_eq E y2
    refine pair_frm Z g G F (fun m' => ⟨rsM M c (315 * c), m302_0 (d := 17) (by omega) k5 c8, rsM_00, rsM_i (by omega) (by omega), rsM_0k (by omega) (by omega), CND_mono (YB := YB) (by omega) (rs_cnd Z.2.2.2.2.2.2.2 ?_ y1 W)⟩)
    refine ⟨(n + 7) % 8, c, ⟨?_, by omega, ?_, by omega⟩, rsM_05, fun i hic => ?_⟩
    · unfold takH
      rw [uA_s, wr_n (by omega), wr_s]
    · unfold takH
      rw [uA_s, wr_s]
    · obtain ⟨Y1, q1, q2⟩ := hi i (by omega)
      rw [show ((n + 7) % 8 + 8 - c + i) % 8 = (n + 8 - (c + 1) + i) % 8 by omega, seA_n (by omega), rsM_i (by omega) (by omega)]
      exact ⟨Y1, q1, OKA_ag (fun _ _ => rfl) (STO_ag (fun j _ => by rw [rsM_i (by omega) (by omega)]) (by omega)) q2⟩
theorem pr64 (he : e.1 ≤ x) (Z : REL x m0 C S0 YB m R I H S Ar M l) {y1 : Int32} : PAIR e x m0 C S0 YB 151 305 [.int y1] (ks2 2 1) m := by
  cases hx : rngB 0 1 y1 with
  | false => exact pair_e Z (E := 2) (b151_2 (d := 11) Z.2.1 hx) (by decide) (by decide) (fun m' => m305_1 (d := 17) (by omega) hx)
  | true =>
    obtain ⟨k, rfl, -, k2⟩ := rng_ab (a := 0) (b := 1) (by omega) hx
    rcases Z.2.2.2.2.2.2.2.2.2.2.2.2 k (by omega) with ⟨a, b⟩ | ⟨a, b, Y, y1, y2⟩
    · exact pair_e Z (E := 1) (b151_1 (d := 11) Z.2.1 (by omega) a) (by decide) (by decide) (fun m' => m305_2 (d := 17) (by omega) (by omega) b)
    · obtain ⟨m1, A', g, G, E, F⟩ := b151_0 (d := 11) Z.2.1 (by omega) (by omega) a
      have e14 : (Ar (11 + k)).1 0 14 = M.1 3 (315 * (8 + k)) := y2.1.2.2.1
      rw [e14] at g
      have W := OKA_eq E y2
      obtain ⟨n, c, K, k5, hi⟩ := Z.2.2.2.2.2.2.2.2.2.2.2.1
      refine pair_frm Z g G F (fun m' => ⟨rsM M 0 (315 * (8 + k)), m305_0 (d := 17) (by omega) (by omega) b, rsM_00, rsM_i (by omega) (by omega), rsM_0k (by omega) (by omega), CND_mono (YB := YB) (by omega) (rs_cnd Z.2.2.2.2.2.2.2 ?_ y1 W)⟩)
      refine ⟨n, 0, ⟨?_, K.2.1, ?_, by omega⟩, rsM_05, fun i hic => by omega⟩
      · rw [uA_s, wr_n (by omega)]
        exact K.1
      · rw [uA_s, wr_s]
theorem pr63 (he : e.1 ≤ x) (Z : REL x m0 C S0 YB m R I H S Ar M l) {y1 : Int32} : PAIR e x m0 C S0 YB 150 304 [.int y1] (ks2 1 2) m := by
  have hR : hB TR 1 x R m := Z.2.1.1
  have hA : hB TA 19 (x + 26) (Ar 0) m := Z.2.1.2.2.2.2 0 (by omega)
  rcases Z.2.2.2.2.2.2.2.2.2.2.1 with ⟨rl, ml, ub⟩ | ⟨rl, ml, Y, hY, W⟩
  · exact pair_e Z (E := 1) (r150_1 (d := 11) hR hA rl) (by decide) (by decide) (fun m' => m304_1 (d := 17) (by omega) ml)
  · cases hx : rngB 0 1 y1 with
    | false => exact pair_e Z (E := 2) (r150_2 (d := 11) hR hA rl hx) (by decide) (by decide) (fun m' => m304_2 (d := 17) (by omega) ml hx)
    | true =>
      obtain ⟨k, rfl, -, k2⟩ := rng_ab (a := 0) (b := 1) (by omega) hx
      obtain ⟨m1, B', g, G, E, F⟩ := b150_0 (d := 11) Z.2.1 (by omega) rl W (j := k) (by omega)
      refine pair_frm Z g G F (fun m' => ⟨_, m304_0 (d := 17) (by omega) ml (by omega), by rw [uA_n (by omega), uA_n (by omega), mT_00], by rw [uA_n (by omega), uA_n (by omega), mT_n (by omega)], by rw [uA_n (by omega), uA_n (by omega), mT_0k (by omega)], CND_mono (YB := YB) (by omega) ?_⟩)
      have f0 : ∀ q, q ≠ 0 → (uA (uA (mT M 0) 3 (dCp (M.1 2) (M.1 3) 0 (315 * (8 + k)) 315)) 4 (wr (M.1 4) k (Int32.ofNat 1))).1 0 q = M.1 0 q := fun q hq => by rw [uA_n (by omega), uA_n (by omega), mT_0k hq]
      have fi : ∀ i, i ≠ 0 → i ≠ 3 → i ≠ 4 → (uA (uA (mT M 0) 3 (dCp (M.1 2) (M.1 3) 0 (315 * (8 + k)) 315)) 4 (wr (M.1 4) k (Int32.ofNat 1))).1 i = M.1 i := fun i h1 h2 h3 => by rw [uA_n h3, uA_n h2, mT_n h1]
      have f3 : (uA (uA (mT M 0) 3 (dCp (M.1 2) (M.1 3) 0 (315 * (8 + k)) 315)) 4 (wr (M.1 4) k (Int32.ofNat 1))).1 3 = dCp (M.1 2) (M.1 3) 0 (315 * (8 + k)) 315 := by rw [uA_n (by omega), uA_s]
      have f4 : (uA (uA (mT M 0) 3 (dCp (M.1 2) (M.1 3) 0 (315 * (8 + k)) 315)) 4 (wr (M.1 4) k (Int32.ofNat 1))).1 4 = wr (M.1 4) k (Int32.ofNat 1) := uA_s _ _ _
      generalize uA (uA (mT M 0) 3 (dCp (M.1 2) (M.1 3) 0 (315 * (8 + k)) 315)) 4 (wr (M.1 4) k (Int32.ofNat 1)) = M' at f0 fi f3 f4 ⊢
      have so : ∀ i, i ≠ 8 + k → ∀ j, j < 315 → STO M' i j = STO M i j := by
        intro i h1 j hj
        unfold STO
        rw [f3]
        unfold dCp
        rw [if_neg (by omega)]
      have sk : ∀ j, j < 315 → STO M' (8 + k) j = M.1 2 j := by
        intro j hj
        unfold STO
        rw [f3]
        unfold dCp
        rw [if_pos (by omega), show 0 + (315 * (8 + k) + j - 315 * (8 + k)) = j by omega]
      obtain ⟨⟨q, B, b1, b2, b3, b4, b5⟩, w2, w3, w4, ⟨n, c, K, k5, hi⟩, w6⟩ := Z.2.2.2.2.2.2.2
      have c8 := K.2.2.2
      refine ⟨⟨q, B, b1, b2, (f0 8 (by omega)).trans b3, b4, fun j hj => ⟨(b5 j hj).1, by rw [fi 5 (by omega) (by omega) (by omega)]; exact (b5 j hj).2⟩⟩, by rw [f0 9 (by omega)]; exact w2, by rw [f0 10 (by omega)]; exact w3, Or.inr ⟨rl, by rw [f0 1 (by omega)]; exact ml, Y, hY, ?_⟩, ⟨n, c, K, by rw [f0 5 (by omega)]; exact k5, fun i hic => ?_⟩, fun j hj => ?_⟩
      · rw [seA_n (by omega), fi 1 (by omega) (by omega) (by omega), fi 2 (by omega) (by omega) (by omega)]
        exact W
      · obtain ⟨Y1, q1, q2⟩ := hi i hic
        rw [seA_n (by omega), fi 1 (by omega) (by omega) (by omega)]
        exact ⟨Y1, q1, OKA_ag (fun _ _ => rfl) (so i (by omega)) q2⟩
      · unfold savS
        rw [uA_s, f4, fi 1 (by omega) (by omega) (by omega)]
        by_cases qj : j = k
        · subst qj
          rw [wr_s, wr_s, seA_s]
          exact Or.inr ⟨rfl, rfl, Y, hY, OKA_ag (fun _ _ => rfl) sk (OKA_eq E W)⟩
        · rw [wr_n qj, wr_n qj, seA_n (by omega)]
          rcases w6 j hj with ⟨a, b⟩ | ⟨a, b, Y1, y1, y2⟩
          · exact Or.inl ⟨a, b⟩
          · exact Or.inr ⟨a, b, Y1, y1, OKA_ag (fun _ _ => rfl) (so (8 + j) (by omega)) y2⟩
end
end

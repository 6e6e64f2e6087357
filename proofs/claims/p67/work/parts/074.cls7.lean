/-! ===== copies of archives (printed by wip/whole/cls7.py) ===== -/
noncomputable section
/-- alike in all that is read -/
def AEq (A B : bX) : Prop := (∀ k, 12 ≤ k → k ≤ 16 → A.1 0 k = B.1 0 k) ∧ A.1 1 4 = B.1 1 4 ∧ A.1 6 2 = B.1 6 2 ∧ (∀ c, c < 8 → A.1 3 c = B.1 3 c ∧ A.1 4 c = B.1 4 c ∧ A.1 5 c = cvI 4 (B.1 5 c) ∧ A.2 2 c = B.2 2 c) ∧ (∀ r, r < 6 → A.1 8 r = B.1 8 r ∧ A.2 7 r = B.2 7 r) ∧ (∀ i k, 9 ≤ i → i ≤ 16 → k < 24 → A.1 i k = B.1 i k) ∧ (∀ k, k < 72 → A.1 17 k = B.1 17 k) ∧ ∀ k, k < 24 → A.1 18 k = B.1 18 k
theorem cv4 {x : Int32} (h : okI 0 1 x) : cvI 4 x = x := by
  obtain ⟨n, n1, -, -, n4⟩ := h.ex
  have : n = 0 ∨ n = 1 := by omega
  rw [n1]
  rcases this with z | z <;> subst z <;> decide +kernel
theorem OKA_eq {Y : Nat} {A B : bX} {h s : sV} (E : AEq A B) (Z : OKA Y B h s) : OKA Y A h s := by
  obtain ⟨x0, x1, x2, x3, x4, x5, x6, x7⟩ := E
  obtain ⟨⟨e1, e2, e3, ⟨g1, g2, g3, g4, g5, g6⟩, e5, e6⟩, W, H⟩ := Z
  have hc : nN (h 2) ≤ 8 := H.2.2.1.2.2
  have hr : nN (h 3) ≤ 6 := H.2.2.2.1.2.2
  have hn : nbS s ≤ 24 := W.1.2.2
  have hl : nlS s ≤ 24 := W.2.1.2.2
  refine ⟨⟨(x0 12 (by omega) (by omega)).trans e1, (x0 13 (by omega) (by omega)).trans e2, (x0 14 (by omega) (by omega)).trans e3, ⟨(x0 15 (by omega) (by omega)).trans g1, (x0 16 (by omega) (by omega)).trans g2, x1.trans g3, x2.trans g4, fun c q => ?_, fun r q => ?_⟩, fun k q => ?_, fun i q => ?_⟩, W, H⟩
  · obtain ⟨y1, y2, y3, y4⟩ := x3 c (by omega)
    obtain ⟨z1, z2, z3, z4⟩ := g5 c q
    exact ⟨y1.trans z1, y2.trans z2, by rw [y3, z3]; exact cv4 (H.2.2.2.2.1 c q).2.2.1, y4.trans z4⟩
  · obtain ⟨y1, y2⟩ := x4 r (by omega)
    obtain ⟨z1, z2⟩ := g6 r q
    exact ⟨y1.trans z1, y2.trans z2⟩
  · exact RB_congr (e5 k q) (W.2.2.2.1 k q).2.2.2.2.2.2.1.2.2 (fun i h1 h2 => x5 i k h1 h2 (by omega)) (fun i hi => x6 _ (by omega)) (fun _ _ => rfl)
  · rw [x7 i (by omega)]
    exact e6 i q
theorem dCp_in {α : Type} {f g : Nat → α} {n j : Nat} (h : j < n) : dCp f g 0 0 n j = f j := by
  unfold dCp
  rw [if_pos (by omega)]
  congr 1
  omega
section
variable {e : dEnv} {d a a2 : Nat} {A B : bX} {m : dMem}
theorem src_at (S : hB TA 19 a2 B m) (hd : a2 + 19 ≤ a ∨ a + 19 ≤ a2) (X : bX) : ov TA 19 a2 B (ov TA 19 a X m) = ov TA 19 a X m := ov_self (hB_other S hd)
theorem Z_r0_0 (S : hB TA 19 a2 B m) (hd : a2 + 19 ≤ a ∨ a + 19 ≤ a2) {X : bX} : gR (ov TA 19 a X m) a2 2 0 = some (a2 + 1) := by
  have := A_r0_0 (a := a2) (X := B) (m := ov TA 19 a X m)
  rw [src_at S hd] at this
  exact this
theorem Z_r0_1 (S : hB TA 19 a2 B m) (hd : a2 + 19 ≤ a ∨ a + 19 ≤ a2) {X : bX} : gR (ov TA 19 a X m) a2 2 1 = some (a2 + 6) := by
  have := A_r0_1 (a := a2) (X := B) (m := ov TA 19 a X m)
  rw [src_at S hd] at this
  exact this
theorem Z_r0_2 (S : hB TA 19 a2 B m) (hd : a2 + 19 ≤ a ∨ a + 19 ≤ a2) {X : bX} : gR (ov TA 19 a X m) a2 2 2 = some (a2 + 9) := by
  have := A_r0_2 (a := a2) (X := B) (m := ov TA 19 a X m)
  rw [src_at S hd] at this
  exact this
theorem Z_r0_3 (S : hB TA 19 a2 B m) (hd : a2 + 19 ≤ a ∨ a + 19 ≤ a2) {X : bX} : gR (ov TA 19 a X m) a2 2 3 = some (a2 + 10) := by
  have := A_r0_3 (a := a2) (X := B) (m := ov TA 19 a X m)
  rw [src_at S hd] at this
  exact this
theorem Z_r0_4 (S : hB TA 19 a2 B m) (hd : a2 + 19 ≤ a ∨ a + 19 ≤ a2) {X : bX} : gR (ov TA 19 a X m) a2 2 4 = some (a2 + 11) := by
  have := A_r0_4 (a := a2) (X := B) (m := ov TA 19 a X m)
  rw [src_at S hd] at this
  exact this
theorem Z_r0_5 (S : hB TA 19 a2 B m) (hd : a2 + 19 ≤ a ∨ a + 19 ≤ a2) {X : bX} : gR (ov TA 19 a X m) a2 2 5 = some (a2 + 12) := by
  have := A_r0_5 (a := a2) (X := B) (m := ov TA 19 a X m)
  rw [src_at S hd] at this
  exact this
theorem Z_r0_6 (S : hB TA 19 a2 B m) (hd : a2 + 19 ≤ a ∨ a + 19 ≤ a2) {X : bX} : gR (ov TA 19 a X m) a2 2 6 = some (a2 + 13) := by
  have := A_r0_6 (a := a2) (X := B) (m := ov TA 19 a X m)
  rw [src_at S hd] at this
  exact this
theorem Z_r0_7 (S : hB TA 19 a2 B m) (hd : a2 + 19 ≤ a ∨ a + 19 ≤ a2) {X : bX} : gR (ov TA 19 a X m) a2 2 7 = some (a2 + 14) := by
  have := A_r0_7 (a := a2) (X := B) (m := ov TA 19 a X m)
  rw [src_at S hd] at this
  exact this
theorem Z_r0_8 (S : hB TA 19 a2 B m) (hd : a2 + 19 ≤ a ∨ a + 19 ≤ a2) {X : bX} : gR (ov TA 19 a X m) a2 2 8 = some (a2 + 15) := by
  have := A_r0_8 (a := a2) (X := B) (m := ov TA 19 a X m)
  rw [src_at S hd] at this
  exact this
theorem Z_r0_9 (S : hB TA 19 a2 B m) (hd : a2 + 19 ≤ a ∨ a + 19 ≤ a2) {X : bX} : gR (ov TA 19 a X m) a2 2 9 = some (a2 + 16) := by
  have := A_r0_9 (a := a2) (X := B) (m := ov TA 19 a X m)
  rw [src_at S hd] at this
  exact this
theorem Z_r0_10 (S : hB TA 19 a2 B m) (hd : a2 + 19 ≤ a ∨ a + 19 ≤ a2) {X : bX} : gR (ov TA 19 a X m) a2 2 10 = some (a2 + 17) := by
  have := A_r0_10 (a := a2) (X := B) (m := ov TA 19 a X m)
  rw [src_at S hd] at this
  exact this
theorem Z_r0_11 (S : hB TA 19 a2 B m) (hd : a2 + 19 ≤ a ∨ a + 19 ≤ a2) {X : bX} : gR (ov TA 19 a X m) a2 2 11 = some (a2 + 18) := by
  have := A_r0_11 (a := a2) (X := B) (m := ov TA 19 a X m)
  rw [src_at S hd] at this
  exact this
theorem Z_g0_12 (S : hB TA 19 a2 B m) (hd : a2 + 19 ≤ a ∨ a + 19 ≤ a2) {X : bX} : gI (ov TA 19 a X m) a2 2 12 = some (B.1 0 12) := by
  have := A_g0_12 (a := a2) (X := B) (m := ov TA 19 a X m)
  rw [src_at S hd] at this
  exact this
theorem Z_g0_13 (S : hB TA 19 a2 B m) (hd : a2 + 19 ≤ a ∨ a + 19 ≤ a2) {X : bX} : gI (ov TA 19 a X m) a2 2 13 = some (B.1 0 13) := by
  have := A_g0_13 (a := a2) (X := B) (m := ov TA 19 a X m)
  rw [src_at S hd] at this
  exact this
theorem Z_g0_14 (S : hB TA 19 a2 B m) (hd : a2 + 19 ≤ a ∨ a + 19 ≤ a2) {X : bX} : gI (ov TA 19 a X m) a2 2 14 = some (B.1 0 14) := by
  have := A_g0_14 (a := a2) (X := B) (m := ov TA 19 a X m)
  rw [src_at S hd] at this
  exact this
theorem Z_g0_15 (S : hB TA 19 a2 B m) (hd : a2 + 19 ≤ a ∨ a + 19 ≤ a2) {X : bX} : gI (ov TA 19 a X m) a2 2 15 = some (B.1 0 15) := by
  have := A_g0_15 (a := a2) (X := B) (m := ov TA 19 a X m)
  rw [src_at S hd] at this
  exact this
theorem Z_g0_16 (S : hB TA 19 a2 B m) (hd : a2 + 19 ≤ a ∨ a + 19 ≤ a2) {X : bX} : gI (ov TA 19 a X m) a2 2 16 = some (B.1 0 16) := by
  have := A_g0_16 (a := a2) (X := B) (m := ov TA 19 a X m)
  rw [src_at S hd] at this
  exact this
theorem Z_r1_0 (S : hB TA 19 a2 B m) (hd : a2 + 19 ≤ a ∨ a + 19 ≤ a2) {X : bX} : gR (ov TA 19 a X m) (a2 + 1) 7 0 = some (a2 + 2) := by
  have := A_r1_0 (a := a2) (X := B) (m := ov TA 19 a X m)
  rw [src_at S hd] at this
  exact this
theorem Z_r1_1 (S : hB TA 19 a2 B m) (hd : a2 + 19 ≤ a ∨ a + 19 ≤ a2) {X : bX} : gR (ov TA 19 a X m) (a2 + 1) 7 1 = some (a2 + 3) := by
  have := A_r1_1 (a := a2) (X := B) (m := ov TA 19 a X m)
  rw [src_at S hd] at this
  exact this
theorem Z_r1_2 (S : hB TA 19 a2 B m) (hd : a2 + 19 ≤ a ∨ a + 19 ≤ a2) {X : bX} : gR (ov TA 19 a X m) (a2 + 1) 7 2 = some (a2 + 4) := by
  have := A_r1_2 (a := a2) (X := B) (m := ov TA 19 a X m)
  rw [src_at S hd] at this
  exact this
theorem Z_r1_3 (S : hB TA 19 a2 B m) (hd : a2 + 19 ≤ a ∨ a + 19 ≤ a2) {X : bX} : gR (ov TA 19 a X m) (a2 + 1) 7 3 = some (a2 + 5) := by
  have := A_r1_3 (a := a2) (X := B) (m := ov TA 19 a X m)
  rw [src_at S hd] at this
  exact this
theorem Z_g1_4 (S : hB TA 19 a2 B m) (hd : a2 + 19 ≤ a ∨ a + 19 ≤ a2) {X : bX} : gI (ov TA 19 a X m) (a2 + 1) 7 4 = some (B.1 1 4) := by
  have := A_g1_4 (a := a2) (X := B) (m := ov TA 19 a X m)
  rw [src_at S hd] at this
  exact this
theorem Z_r6_0 (S : hB TA 19 a2 B m) (hd : a2 + 19 ≤ a ∨ a + 19 ≤ a2) {X : bX} : gR (ov TA 19 a X m) (a2 + 6) 6 0 = some (a2 + 7) := by
  have := A_r6_0 (a := a2) (X := B) (m := ov TA 19 a X m)
  rw [src_at S hd] at this
  exact this
theorem Z_r6_1 (S : hB TA 19 a2 B m) (hd : a2 + 19 ≤ a ∨ a + 19 ≤ a2) {X : bX} : gR (ov TA 19 a X m) (a2 + 6) 6 1 = some (a2 + 8) := by
  have := A_r6_1 (a := a2) (X := B) (m := ov TA 19 a X m)
  rw [src_at S hd] at this
  exact this
theorem Z_g6_2 (S : hB TA 19 a2 B m) (hd : a2 + 19 ≤ a ∨ a + 19 ≤ a2) {X : bX} : gI (ov TA 19 a X m) (a2 + 6) 6 2 = some (B.1 6 2) := by
  have := A_g6_2 (a := a2) (X := B) (m := ov TA 19 a X m)
  rw [src_at S hd] at this
  exact this
theorem Z_a5 (S : hB TA 19 a2 B m) (hd : a2 + 19 ≤ a ∨ a + 19 ≤ a2) {X : bX} {j : Nat} (hj : j < 8) : aI (ov TA 19 a X m) 4 (a2 + 5) (Int32.ofNat j) = some (B.1 5 j) := by
  have := A_a5 (a := a2) (X := B) (m := ov TA 19 a X m) hj
  rw [src_at S hd] at this
  exact this
theorem Z_c2 (S : hB TA 19 a2 B m) (hd : a2 + 19 ≤ a ∨ a + 19 ≤ a2) (he : e.1 ≤ a) {X : bX} : aCp e (ov TA 19 a X m) (a2 + 2) (Int32.ofNat 0) (a + 2) (Int32.ofNat 0) (Int32.ofNat 8) = some (ov TA 19 a (uL X 2 (dCp (B.2 2) (X.2 2) 0 0 8)) m) :=
  ov_cpL (i := 2) (N := 8) (N' := 8) (by decide) he rfl rfl rfl (by decide) (by decide) (hB_other S hd 2 (by decide)) (by decide) (by decide)
theorem Z_c3 (S : hB TA 19 a2 B m) (hd : a2 + 19 ≤ a ∨ a + 19 ≤ a2) (he : e.1 ≤ a) {X : bX} : aCp e (ov TA 19 a X m) (a2 + 3) (Int32.ofNat 0) (a + 3) (Int32.ofNat 0) (Int32.ofNat 8) = some (ov TA 19 a (uA X 3 (dCp (B.1 3) (X.1 3) 0 0 8)) m) :=
  ov_cp (i := 3) (kd := 0) (N := 8) (N' := 8) (by decide) he rfl rfl (Or.inl rfl) rfl (by decide) (by decide) (hB_other S hd 3 (by decide)) (by decide) (by decide)
theorem Z_c4 (S : hB TA 19 a2 B m) (hd : a2 + 19 ≤ a ∨ a + 19 ≤ a2) (he : e.1 ≤ a) {X : bX} : aCp e (ov TA 19 a X m) (a2 + 4) (Int32.ofNat 0) (a + 4) (Int32.ofNat 0) (Int32.ofNat 8) = some (ov TA 19 a (uA X 4 (dCp (B.1 4) (X.1 4) 0 0 8)) m) :=
  ov_cp (i := 4) (kd := 0) (N := 8) (N' := 8) (by decide) he rfl rfl (Or.inl rfl) rfl (by decide) (by decide) (hB_other S hd 4 (by decide)) (by decide) (by decide)
theorem Z_c7 (S : hB TA 19 a2 B m) (hd : a2 + 19 ≤ a ∨ a + 19 ≤ a2) (he : e.1 ≤ a) {X : bX} : aCp e (ov TA 19 a X m) (a2 + 7) (Int32.ofNat 0) (a + 7) (Int32.ofNat 0) (Int32.ofNat 6) = some (ov TA 19 a (uL X 7 (dCp (B.2 7) (X.2 7) 0 0 6)) m) :=
  ov_cpL (i := 7) (N := 6) (N' := 6) (by decide) he rfl rfl rfl (by decide) (by decide) (hB_other S hd 7 (by decide)) (by decide) (by decide)
theorem Z_c8 (S : hB TA 19 a2 B m) (hd : a2 + 19 ≤ a ∨ a + 19 ≤ a2) (he : e.1 ≤ a) {X : bX} : aCp e (ov TA 19 a X m) (a2 + 8) (Int32.ofNat 0) (a + 8) (Int32.ofNat 0) (Int32.ofNat 6) = some (ov TA 19 a (uA X 8 (dCp (B.1 8) (X.1 8) 0 0 6)) m) :=
  ov_cp (i := 8) (kd := 0) (N := 6) (N' := 6) (by decide) he rfl rfl (Or.inl rfl) rfl (by decide) (by decide) (hB_other S hd 8 (by decide)) (by decide) (by decide)
theorem Z_c9 (S : hB TA 19 a2 B m) (hd : a2 + 19 ≤ a ∨ a + 19 ≤ a2) (he : e.1 ≤ a) {X : bX} : aCp e (ov TA 19 a X m) (a2 + 9) (Int32.ofNat 0) (a + 9) (Int32.ofNat 0) (Int32.ofNat 24) = some (ov TA 19 a (uA X 9 (dCp (B.1 9) (X.1 9) 0 0 24)) m) :=
  ov_cp (i := 9) (kd := 0) (N := 24) (N' := 24) (by decide) he rfl rfl (Or.inl rfl) rfl (by decide) (by decide) (hB_other S hd 9 (by decide)) (by decide) (by decide)
theorem Z_c10 (S : hB TA 19 a2 B m) (hd : a2 + 19 ≤ a ∨ a + 19 ≤ a2) (he : e.1 ≤ a) {X : bX} : aCp e (ov TA 19 a X m) (a2 + 10) (Int32.ofNat 0) (a + 10) (Int32.ofNat 0) (Int32.ofNat 24) = some (ov TA 19 a (uA X 10 (dCp (B.1 10) (X.1 10) 0 0 24)) m) :=
  ov_cp (i := 10) (kd := 0) (N := 24) (N' := 24) (by decide) he rfl rfl (Or.inl rfl) rfl (by decide) (by decide) (hB_other S hd 10 (by decide)) (by decide) (by decide)
theorem Z_c11 (S : hB TA 19 a2 B m) (hd : a2 + 19 ≤ a ∨ a + 19 ≤ a2) (he : e.1 ≤ a) {X : bX} : aCp e (ov TA 19 a X m) (a2 + 11) (Int32.ofNat 0) (a + 11) (Int32.ofNat 0) (Int32.ofNat 24) = some (ov TA 19 a (uA X 11 (dCp (B.1 11) (X.1 11) 0 0 24)) m) :=
  ov_cp (i := 11) (kd := 0) (N := 24) (N' := 24) (by decide) he rfl rfl (Or.inl rfl) rfl (by decide) (by decide) (hB_other S hd 11 (by decide)) (by decide) (by decide)
theorem Z_c12 (S : hB TA 19 a2 B m) (hd : a2 + 19 ≤ a ∨ a + 19 ≤ a2) (he : e.1 ≤ a) {X : bX} : aCp e (ov TA 19 a X m) (a2 + 12) (Int32.ofNat 0) (a + 12) (Int32.ofNat 0) (Int32.ofNat 24) = some (ov TA 19 a (uA X 12 (dCp (B.1 12) (X.1 12) 0 0 24)) m) :=
  ov_cp (i := 12) (kd := 0) (N := 24) (N' := 24) (by decide) he rfl rfl (Or.inl rfl) rfl (by decide) (by decide) (hB_other S hd 12 (by decide)) (by decide) (by decide)
theorem Z_c13 (S : hB TA 19 a2 B m) (hd : a2 + 19 ≤ a ∨ a + 19 ≤ a2) (he : e.1 ≤ a) {X : bX} : aCp e (ov TA 19 a X m) (a2 + 13) (Int32.ofNat 0) (a + 13) (Int32.ofNat 0) (Int32.ofNat 24) = some (ov TA 19 a (uA X 13 (dCp (B.1 13) (X.1 13) 0 0 24)) m) :=
  ov_cp (i := 13) (kd := 0) (N := 24) (N' := 24) (by decide) he rfl rfl (Or.inl rfl) rfl (by decide) (by decide) (hB_other S hd 13 (by decide)) (by decide) (by decide)
theorem Z_c14 (S : hB TA 19 a2 B m) (hd : a2 + 19 ≤ a ∨ a + 19 ≤ a2) (he : e.1 ≤ a) {X : bX} : aCp e (ov TA 19 a X m) (a2 + 14) (Int32.ofNat 0) (a + 14) (Int32.ofNat 0) (Int32.ofNat 24) = some (ov TA 19 a (uA X 14 (dCp (B.1 14) (X.1 14) 0 0 24)) m) :=
  ov_cp (i := 14) (kd := 0) (N := 24) (N' := 24) (by decide) he rfl rfl (Or.inl rfl) rfl (by decide) (by decide) (hB_other S hd 14 (by decide)) (by decide) (by decide)
theorem Z_c15 (S : hB TA 19 a2 B m) (hd : a2 + 19 ≤ a ∨ a + 19 ≤ a2) (he : e.1 ≤ a) {X : bX} : aCp e (ov TA 19 a X m) (a2 + 15) (Int32.ofNat 0) (a + 15) (Int32.ofNat 0) (Int32.ofNat 24) = some (ov TA 19 a (uA X 15 (dCp (B.1 15) (X.1 15) 0 0 24)) m) :=
  ov_cp (i := 15) (kd := 0) (N := 24) (N' := 24) (by decide) he rfl rfl (Or.inl rfl) rfl (by decide) (by decide) (hB_other S hd 15 (by decide)) (by decide) (by decide)
theorem Z_c16 (S : hB TA 19 a2 B m) (hd : a2 + 19 ≤ a ∨ a + 19 ≤ a2) (he : e.1 ≤ a) {X : bX} : aCp e (ov TA 19 a X m) (a2 + 16) (Int32.ofNat 0) (a + 16) (Int32.ofNat 0) (Int32.ofNat 24) = some (ov TA 19 a (uA X 16 (dCp (B.1 16) (X.1 16) 0 0 24)) m) :=
  ov_cp (i := 16) (kd := 0) (N := 24) (N' := 24) (by decide) he rfl rfl (Or.inl rfl) rfl (by decide) (by decide) (hB_other S hd 16 (by decide)) (by decide) (by decide)
theorem Z_c17 (S : hB TA 19 a2 B m) (hd : a2 + 19 ≤ a ∨ a + 19 ≤ a2) (he : e.1 ≤ a) {X : bX} : aCp e (ov TA 19 a X m) (a2 + 17) (Int32.ofNat 0) (a + 17) (Int32.ofNat 0) (Int32.ofNat 72) = some (ov TA 19 a (uA X 17 (dCp (B.1 17) (X.1 17) 0 0 72)) m) :=
  ov_cp (i := 17) (kd := 0) (N := 72) (N' := 72) (by decide) he rfl rfl (Or.inl rfl) rfl (by decide) (by decide) (hB_other S hd 17 (by decide)) (by decide) (by decide)
theorem Z_c18 (S : hB TA 19 a2 B m) (hd : a2 + 19 ≤ a ∨ a + 19 ≤ a2) (he : e.1 ≤ a) {X : bX} : aCp e (ov TA 19 a X m) (a2 + 18) (Int32.ofNat 0) (a + 18) (Int32.ofNat 0) (Int32.ofNat 24) = some (ov TA 19 a (uA X 18 (dCp (B.1 18) (X.1 18) 0 0 24)) m) :=
  ov_cp (i := 18) (kd := 0) (N := 24) (N' := 24) (by decide) he rfl rfl (Or.inl rfl) rfl (by decide) (by decide) (hB_other S hd 18 (by decide)) (by decide) (by decide)
theorem k_copy84 (S : hB TA 19 a2 B m) (hd : a2 + 19 ≤ a ∨ a + 19 ≤ a2) (he : e.1 ≤ a) : ∃ A', dN e (d + 1) 84 [.ref (a + 1), .ref (a2 + 1)] (ov TA 19 a A m) = some (.inl none, ov TA 19 a A' m) ∧ A'.1 1 4 = B.1 1 4 ∧ (∀ c, c < 8 → A'.1 3 c = B.1 3 c ∧ A'.1 4 c = B.1 4 c ∧ A'.1 5 c = cvI 4 (B.1 5 c) ∧ A'.2 2 c = B.2 2 c) ∧ (∀ i, i ≠ 1 → i ≠ 3 → i ≠ 4 → i ≠ 5 → A'.1 i = A.1 i) ∧ A'.2 7 = A.2 7 := by
  have key := lp_ex (c := 2) (n := 8) (P := fun k (X : bX) => (∀ j, j < k → X.1 5 j = cvI 4 (B.1 5 j)) ∧ (∀ i, i ≠ 5 → X.1 i = (uA (uA (uL A 2 (dCp (B.2 2) (A.2 2) 0 0 8)) 3 (dCp (B.1 3) (A.1 3) 0 0 8)) 4 (dCp (B.1 4) (A.1 4) 0 0 8)).1 i) ∧ X.2 = (uL A 2 (dCp (B.2 2) (A.2 2) 0 0 8)).2) (G := fun t k X => runL e (dN e d) 84 t 1 [some (.ref (a + 1)), some (.ref (a2 + 1)), some (.int (Int32.ofNat k))] [] (ov TA 19 a X m)) (r := fun X => some (.inl none, ov TA 19 a (uA X 1 (wr (X.1 1) 4 (B.1 1 4))) m)) ?_ ?_ (uA (uA (uL A 2 (dCp (B.2 2) (A.2 2) 0 0 8)) 3 (dCp (B.1 3) (A.1 3) 0 0 8)) 4 (dCp (B.1 4) (A.1 4) 0 0 8)) ⟨fun j hj => by omega, fun _ _ => rfl, rfl⟩
  · obtain ⟨X, ⟨p1, p2, p3⟩, g⟩ := key
    refine ⟨uA X 1 (wr (X.1 1) 4 (B.1 1 4)), ?_, ?_, fun c hc => ⟨?_, ?_, ?_, ?_⟩, fun i h1 h3 h4 h5 => ?_, ?_⟩
    · refine en84 A_c1 fun t ht => ?_
      obtain ⟨u, rfl⟩ := fu 1 ht rfl
      simp -implicitDefEqProofs (disch := omega) only [↓reduceIte, q84_0, uL_1, bd_s, kI_r, kV_r, kL_r, rZ_1, rZ_0, rZ_b, rI_ite, bI_ite, ite_tf, ite_ft, bI0, bI1, bf_ite, nAdd, nMul, nLt, nEq, nEqM, nMEq, nMLt, nLtM, nMLt0, if_true, if_false, Nat.reduceAdd, Nat.reduceMul, Nat.zero_add, Nat.add_zero, decide_eq_true_eq, decide_true, decide_false, Nat.reduceEqDiff, Nat.reduceLT, Nat.reduceLeDiff, eq_self, Bool.false_eq_true, Bool.true_eq_false, Bool.not_eq_false', Bool.not_eq_true', ite_not, A_r0_0, A_r0_1, A_r0_2, A_r0_3, A_r0_4, A_r0_5, A_r0_6, A_r0_7, A_r0_8, A_r0_9, A_r0_10, A_r0_11, A_g0_12, A_g0_13, A_g0_14, A_g0_15, A_g0_16, A_r1_1, A_r1_2, A_r1_3, A_g1_4, A_r6_1, A_g6_2, A_a3, A_a4, A_a5, A_a8, A_a9, A_a10, A_a11, A_a12, A_a13, A_a14, A_a15, A_a16, A_a17, A_a18, A_r1_0, A_r6_0, A_c1, A_c6, Z_r0_0 S hd, Z_r0_1 S hd, Z_r0_2 S hd, Z_r0_3 S hd, Z_r0_4 S hd, Z_r0_5 S hd, Z_r0_6 S hd, Z_r0_7 S hd, Z_r0_8 S hd, Z_r0_9 S hd, Z_r0_10 S hd, Z_r0_11 S hd, Z_g0_12 S hd, Z_g0_13 S hd, Z_g0_14 S hd, Z_g0_15 S hd, Z_g0_16 S hd, Z_r1_0 S hd, Z_r1_1 S hd, Z_r1_2 S hd, Z_r1_3 S hd, Z_g1_4 S hd, Z_r6_0 S hd, Z_r6_1 S hd, Z_g6_2 S hd, Z_a5 S hd, Z_c2 S hd he, Z_c3 S hd he, Z_c4 S hd he, Z_c7 S hd he, Z_c8 S hd he, Z_c9 S hd he, Z_c10 S hd he, Z_c11 S hd he, Z_c12 S hd he, Z_c13 S hd he, Z_c14 S hd he, Z_c15 S hd he, Z_c16 S hd he, Z_c17 S hd he, Z_c18 S hd he, A_p0_12 he, A_p0_13 he, A_p0_14 he, A_p0_15 he, A_p0_16 he, A_p1_4 he, A_p6_2 he, A_s5 he, uA_s, uA_n, uA_uA]
      exact g u (by omega)
    · rw [uA_s, wr_s]
    · rw [uA_n (by omega), p2 3 (by omega), uA_n (by omega), uA_s, dCp_in hc]
    · rw [uA_n (by omega), p2 4 (by omega), uA_s, dCp_in hc]
    · rw [uA_n (by omega), p1 c hc]
    · show X.2 2 c = _
      rw [p3, uL_s, dCp_in hc]
    · rw [uA_n h1, p2 i h5, uA_n h4, uA_n h3]
      rfl
    · show X.2 7 = _
      rw [p3, uL_n (by omega)]
  · intro k X hk ⟨p1, p2, p3⟩
    refine ⟨uA X 5 (wr (X.1 5) k (cvI 4 (B.1 5 k))), ⟨fun j hj => ?_, fun i hi => ?_, p3⟩, fun t => ⟨t + 1, by omega, ?_⟩⟩
    · rw [uA_s]
      by_cases q : j = k
      · rw [q, wr_s]
      · rw [wr_n q, p1 j (by omega)]
    · rw [uA_n hi, p2 i hi]
    · have e3 : t + 2 = (t + 1) + 1 := by omega
      rw [e3]
      generalize t + 1 = v
      simp -implicitDefEqProofs (disch := omega) only [↓reduceIte, q84_1, hk, bd_s, kI_r, kV_r, kL_r, rZ_1, rZ_0, rZ_b, rI_ite, bI_ite, ite_tf, ite_ft, bI0, bI1, bf_ite, nAdd, nMul, nLt, nEq, nEqM, nMEq, nMLt, nLtM, nMLt0, if_true, if_false, Nat.reduceAdd, Nat.reduceMul, Nat.zero_add, Nat.add_zero, decide_eq_true_eq, decide_true, decide_false, Nat.reduceEqDiff, Nat.reduceLT, Nat.reduceLeDiff, eq_self, Bool.false_eq_true, Bool.true_eq_false, Bool.not_eq_false', Bool.not_eq_true', ite_not, A_r0_0, A_r0_1, A_r0_2, A_r0_3, A_r0_4, A_r0_5, A_r0_6, A_r0_7, A_r0_8, A_r0_9, A_r0_10, A_r0_11, A_g0_12, A_g0_13, A_g0_14, A_g0_15, A_g0_16, A_r1_1, A_r1_2, A_r1_3, A_g1_4, A_r6_1, A_g6_2, A_a3, A_a4, A_a5, A_a8, A_a9, A_a10, A_a11, A_a12, A_a13, A_a14, A_a15, A_a16, A_a17, A_a18, A_r1_0, A_r6_0, A_c1, A_c6, Z_r0_0 S hd, Z_r0_1 S hd, Z_r0_2 S hd, Z_r0_3 S hd, Z_r0_4 S hd, Z_r0_5 S hd, Z_r0_6 S hd, Z_r0_7 S hd, Z_r0_8 S hd, Z_r0_9 S hd, Z_r0_10 S hd, Z_r0_11 S hd, Z_g0_12 S hd, Z_g0_13 S hd, Z_g0_14 S hd, Z_g0_15 S hd, Z_g0_16 S hd, Z_r1_0 S hd, Z_r1_1 S hd, Z_r1_2 S hd, Z_r1_3 S hd, Z_g1_4 S hd, Z_r6_0 S hd, Z_r6_1 S hd, Z_g6_2 S hd, Z_a5 S hd, Z_c2 S hd he, Z_c3 S hd he, Z_c4 S hd he, Z_c7 S hd he, Z_c8 S hd he, Z_c9 S hd he, Z_c10 S hd he, Z_c11 S hd he, Z_c12 S hd he, Z_c13 S hd he, Z_c14 S hd he, Z_c15 S hd he, Z_c16 S hd he, Z_c17 S hd he, Z_c18 S hd he, A_p0_12 he, A_p0_13 he, A_p0_14 he, A_p0_15 he, A_p0_16 he, A_p1_4 he, A_p6_2 he, A_s5 he, uA_s, uA_n, uA_uA]
  · intro t X _
    simp -implicitDefEqProofs (disch := omega) only [↓reduceIte, q84_1, q84_2, Nat.lt_irrefl, bd_s, kI_r, kV_r, kL_r, rZ_1, rZ_0, rZ_b, rI_ite, bI_ite, ite_tf, ite_ft, bI0, bI1, bf_ite, nAdd, nMul, nLt, nEq, nEqM, nMEq, nMLt, nLtM, nMLt0, if_true, if_false, Nat.reduceAdd, Nat.reduceMul, Nat.zero_add, Nat.add_zero, decide_eq_true_eq, decide_true, decide_false, Nat.reduceEqDiff, Nat.reduceLT, Nat.reduceLeDiff, eq_self, Bool.false_eq_true, Bool.true_eq_false, Bool.not_eq_false', Bool.not_eq_true', ite_not, A_r0_0, A_r0_1, A_r0_2, A_r0_3, A_r0_4, A_r0_5, A_r0_6, A_r0_7, A_r0_8, A_r0_9, A_r0_10, A_r0_11, A_g0_12, A_g0_13, A_g0_14, A_g0_15, A_g0_16, A_r1_1, A_r1_2, A_r1_3, A_g1_4, A_r6_1, A_g6_2, A_a3, A_a4, A_a5, A_a8, A_a9, A_a10, A_a11, A_a12, A_a13, A_a14, A_a15, A_a16, A_a17, A_a18, A_r1_0, A_r6_0, A_c1, A_c6, Z_r0_0 S hd, Z_r0_1 S hd, Z_r0_2 S hd, Z_r0_3 S hd, Z_r0_4 S hd, Z_r0_5 S hd, Z_r0_6 S hd, Z_r0_7 S hd, Z_r0_8 S hd, Z_r0_9 S hd, Z_r0_10 S hd, Z_r0_11 S hd, Z_g0_12 S hd, Z_g0_13 S hd, Z_g0_14 S hd, Z_g0_15 S hd, Z_g0_16 S hd, Z_r1_0 S hd, Z_r1_1 S hd, Z_r1_2 S hd, Z_r1_3 S hd, Z_g1_4 S hd, Z_r6_0 S hd, Z_r6_1 S hd, Z_g6_2 S hd, Z_a5 S hd, Z_c2 S hd he, Z_c3 S hd he, Z_c4 S hd he, Z_c7 S hd he, Z_c8 S hd he, Z_c9 S hd he, Z_c10 S hd he, Z_c11 S hd he, Z_c12 S hd he, Z_c13 S hd he, Z_c14 S hd he, Z_c15 S hd he, Z_c16 S hd he, Z_c17 S hd he, Z_c18 S hd he, A_p0_12 he, A_p0_13 he, A_p0_14 he, A_p0_15 he, A_p0_16 he, A_p1_4 he, A_p6_2 he, A_s5 he, uA_s, uA_n, uA_uA]
theorem k_copy81 (S : hB TA 19 a2 B m) (hd : a2 + 19 ≤ a ∨ a + 19 ≤ a2) (he : e.1 ≤ a) : dN e (d + 1) 81 [.ref (a + 6), .ref (a2 + 6)] (ov TA 19 a A m) = some (.inl none, ov TA 19 a (uA (uA (uL A 7 (dCp (B.2 7) (A.2 7) 0 0 6)) 8 (dCp (B.1 8) (A.1 8) 0 0 6)) 6 (wr (A.1 6) 2 (B.1 6 2))) m) := by
  refine en81 A_c6 fun t ht => ?_
  obtain ⟨u, rfl⟩ := fu 9 ht rfl
  simp -implicitDefEqProofs (disch := omega) only [↓reduceIte, q81_0, uL_1, bd_s, kI_r, kV_r, kL_r, rZ_1, rZ_0, rZ_b, rI_ite, bI_ite, ite_tf, ite_ft, bI0, bI1, bf_ite, nAdd, nMul, nLt, nEq, nEqM, nMEq, nMLt, nLtM, nMLt0, if_true, if_false, Nat.reduceAdd, Nat.reduceMul, Nat.zero_add, Nat.add_zero, decide_eq_true_eq, decide_true, decide_false, Nat.reduceEqDiff, Nat.reduceLT, Nat.reduceLeDiff, eq_self, Bool.false_eq_true, Bool.true_eq_false, Bool.not_eq_false', Bool.not_eq_true', ite_not, A_r0_0, A_r0_1, A_r0_2, A_r0_3, A_r0_4, A_r0_5, A_r0_6, A_r0_7, A_r0_8, A_r0_9, A_r0_10, A_r0_11, A_g0_12, A_g0_13, A_g0_14, A_g0_15, A_g0_16, A_r1_1, A_r1_2, A_r1_3, A_g1_4, A_r6_1, A_g6_2, A_a3, A_a4, A_a5, A_a8, A_a9, A_a10, A_a11, A_a12, A_a13, A_a14, A_a15, A_a16, A_a17, A_a18, A_r1_0, A_r6_0, A_c1, A_c6, Z_r0_0 S hd, Z_r0_1 S hd, Z_r0_2 S hd, Z_r0_3 S hd, Z_r0_4 S hd, Z_r0_5 S hd, Z_r0_6 S hd, Z_r0_7 S hd, Z_r0_8 S hd, Z_r0_9 S hd, Z_r0_10 S hd, Z_r0_11 S hd, Z_g0_12 S hd, Z_g0_13 S hd, Z_g0_14 S hd, Z_g0_15 S hd, Z_g0_16 S hd, Z_r1_0 S hd, Z_r1_1 S hd, Z_r1_2 S hd, Z_r1_3 S hd, Z_g1_4 S hd, Z_r6_0 S hd, Z_r6_1 S hd, Z_g6_2 S hd, Z_a5 S hd, Z_c2 S hd he, Z_c3 S hd he, Z_c4 S hd he, Z_c7 S hd he, Z_c8 S hd he, Z_c9 S hd he, Z_c10 S hd he, Z_c11 S hd he, Z_c12 S hd he, Z_c13 S hd he, Z_c14 S hd he, Z_c15 S hd he, Z_c16 S hd he, Z_c17 S hd he, Z_c18 S hd he, A_p0_12 he, A_p0_13 he, A_p0_14 he, A_p0_15 he, A_p0_16 he, A_p1_4 he, A_p6_2 he, A_s5 he, uA_s, uA_n, uA_uA]
theorem k_copy (S : hB TA 19 a2 B m) (hd : a2 + 19 ≤ a ∨ a + 19 ≤ a2) (he : e.1 ≤ a) : ∃ A', dN e (d + 2) 2 [.ref a, .ref a2] (ov TA 19 a A m) = some (.inl none, ov TA 19 a A' m) ∧ AEq A' B := by
  obtain ⟨A1, g1, f1, f2, f3, f4⟩ := k_copy84 (e := e) (d := d) (A := A) S hd he
  have g2 := k_copy81 (e := e) (d := d) (A := A1) S hd he
  obtain ⟨X, hX⟩ : ∃ X, X = uA (uA (uL A1 7 (dCp (B.2 7) (A1.2 7) 0 0 6)) 8 (dCp (B.1 8) (A1.1 8) 0 0 6)) 6 (wr (A1.1 6) 2 (B.1 6 2)) := ⟨_, rfl⟩
  rw [← hX] at g2
  have x1 : X.1 1 4 = B.1 1 4 := by rw [hX, uA_n (by omega), uA_n (by omega)]; exact f1
  have x2 : X.1 6 2 = B.1 6 2 := by rw [hX, uA_s, wr_s]
  have x3 : ∀ c, c < 8 → X.1 3 c = B.1 3 c ∧ X.1 4 c = B.1 4 c ∧ X.1 5 c = cvI 4 (B.1 5 c) ∧ X.2 2 c = B.2 2 c := fun c hc => by
    rw [hX, uA_n (by omega), uA_n (by omega), uA_n (by omega), uA_n (by omega), uA_n (by omega), uA_n (by omega), uA_2, uA_2, uL_n (by omega)]
    exact f2 c hc
  have x4 : ∀ r, r < 6 → X.1 8 r = B.1 8 r ∧ X.2 7 r = B.2 7 r := fun r hr => by
    rw [hX, uA_n (by omega), uA_s, uA_2, uA_2, uL_s, dCp_in hr, dCp_in hr]
    exact ⟨rfl, rfl⟩
  clear hX
  refine ⟨(uA (uA (uA (uA (uA (uA (uA (uA (uA (uA (uA X 9 (dCp (B.1 9) (X.1 9) 0 0 24)) 10 (dCp (B.1 10) (X.1 10) 0 0 24)) 11 (dCp (B.1 11) (X.1 11) 0 0 24)) 12 (dCp (B.1 12) (X.1 12) 0 0 24)) 13 (dCp (B.1 13) (X.1 13) 0 0 24)) 14 (dCp (B.1 14) (X.1 14) 0 0 24)) 15 (dCp (B.1 15) (X.1 15) 0 0 24)) 16 (dCp (B.1 16) (X.1 16) 0 0 24)) 17 (dCp (B.1 17) (X.1 17) 0 0 72)) 18 (dCp (B.1 18) (X.1 18) 0 0 24)) 0 (wr (wr (wr (wr (wr (X.1 0) 12 (B.1 0 12)) 13 (B.1 0 13)) 14 (B.1 0 14)) 15 (B.1 0 15)) 16 (B.1 0 16))), ?_, ⟨fun k h1 h2 => ?_, ?_, ?_, fun c hc => ?_, fun r hr => ?_, fun i k h1 h2 hk => ?_, fun k hk => ?_, fun k hk => ?_⟩⟩
  · refine en2 A_c0 fun t ht => ?_
    obtain ⟨u, rfl⟩ := fu 9 ht rfl
    simp -implicitDefEqProofs (disch := omega) only [↓reduceIte, q2_0, g1, g2, bd_s, kI_r, kV_r, kL_r, rZ_1, rZ_0, rZ_b, rI_ite, bI_ite, ite_tf, ite_ft, bI0, bI1, bf_ite, nAdd, nMul, nLt, nEq, nEqM, nMEq, nMLt, nLtM, nMLt0, if_true, if_false, Nat.reduceAdd, Nat.reduceMul, Nat.zero_add, Nat.add_zero, decide_eq_true_eq, decide_true, decide_false, Nat.reduceEqDiff, Nat.reduceLT, Nat.reduceLeDiff, eq_self, Bool.false_eq_true, Bool.true_eq_false, Bool.not_eq_false', Bool.not_eq_true', ite_not, A_r0_0, A_r0_1, A_r0_2, A_r0_3, A_r0_4, A_r0_5, A_r0_6, A_r0_7, A_r0_8, A_r0_9, A_r0_10, A_r0_11, A_g0_12, A_g0_13, A_g0_14, A_g0_15, A_g0_16, A_r1_1, A_r1_2, A_r1_3, A_g1_4, A_r6_1, A_g6_2, A_a3, A_a4, A_a5, A_a8, A_a9, A_a10, A_a11, A_a12, A_a13, A_a14, A_a15, A_a16, A_a17, A_a18, A_r1_0, A_r6_0, A_c1, A_c6, Z_r0_0 S hd, Z_r0_1 S hd, Z_r0_2 S hd, Z_r0_3 S hd, Z_r0_4 S hd, Z_r0_5 S hd, Z_r0_6 S hd, Z_r0_7 S hd, Z_r0_8 S hd, Z_r0_9 S hd, Z_r0_10 S hd, Z_r0_11 S hd, Z_g0_12 S hd, Z_g0_13 S hd, Z_g0_14 S hd, Z_g0_15 S hd, Z_g0_16 S hd, Z_r1_0 S hd, Z_r1_1 S hd, Z_r1_2 S hd, Z_r1_3 S hd, Z_g1_4 S hd, Z_r6_0 S hd, Z_r6_1 S hd, Z_g6_2 S hd, Z_a5 S hd, Z_c2 S hd he, Z_c3 S hd he, Z_c4 S hd he, Z_c7 S hd he, Z_c8 S hd he, Z_c9 S hd he, Z_c10 S hd he, Z_c11 S hd he, Z_c12 S hd he, Z_c13 S hd he, Z_c14 S hd he, Z_c15 S hd he, Z_c16 S hd he, Z_c17 S hd he, Z_c18 S hd he, A_p0_12 he, A_p0_13 he, A_p0_14 he, A_p0_15 he, A_p0_16 he, A_p1_4 he, A_p6_2 he, A_s5 he, uA_s, uA_n, uA_uA]
  · rw [uA_s]
    have : k = 12 ∨ k = 13 ∨ k = 14 ∨ k = 15 ∨ k = 16 := by omega
    rcases this with z | z | z | z | z <;> subst z <;> simp (disch := omega) only [wr_s, wr_n]
  · simp (disch := omega) only [uA_n]
    exact x1
  · simp (disch := omega) only [uA_n]
    exact x2
  · simp (disch := omega) only [uA_n, uA_2]
    exact x3 c hc
  · simp (disch := omega) only [uA_n, uA_2]
    exact x4 r hr
  · have : i = 9 ∨ i = 10 ∨ i = 11 ∨ i = 12 ∨ i = 13 ∨ i = 14 ∨ i = 15 ∨ i = 16 := by omega
    rcases this with z | z | z | z | z | z | z | z <;> subst z <;> simp (disch := omega) only [uA_n, uA_s, dCp_in]
  · simp (disch := omega) only [uA_n, uA_s, dCp_in]
  · simp (disch := omega) only [uA_n, uA_s, dCp_in]
theorem k_begin (he : e.1 ≤ a) {y p q : Int32} : dN e (d + 1) 1 [.ref a, .int y, .int p, .int q] (ov TA 19 a A m) = some (.inl none, ov TA 19 a (uA (uA (uA A 0 (wr (wr (wr (wr (wr (A.1 0) 14 y) 15 p) 16 q) 13 (Int32.ofNat 0)) 12 (Int32.ofNat 0))) 1 (wr (A.1 1) 4 (Int32.ofNat 0))) 6 (wr (A.1 6) 2 (Int32.ofNat 0))) m) := by
  refine en1 A_c0 fun t ht => ?_
  obtain ⟨u, rfl⟩ := fu 9 ht rfl
  simp -implicitDefEqProofs (disch := omega) only [↓reduceIte, q1_0, bd_s, kI_r, kV_r, kL_r, rZ_1, rZ_0, rZ_b, rI_ite, bI_ite, ite_tf, ite_ft, bI0, bI1, bf_ite, nAdd, nMul, nLt, nEq, nEqM, nMEq, nMLt, nLtM, nMLt0, if_true, if_false, Nat.reduceAdd, Nat.reduceMul, Nat.zero_add, Nat.add_zero, decide_eq_true_eq, decide_true, decide_false, Nat.reduceEqDiff, Nat.reduceLT, Nat.reduceLeDiff, eq_self, Bool.false_eq_true, Bool.true_eq_false, Bool.not_eq_false', Bool.not_eq_true', ite_not, A_r0_0, A_r0_1, A_r0_2, A_r0_3, A_r0_4, A_r0_5, A_r0_6, A_r0_7, A_r0_8, A_r0_9, A_r0_10, A_r0_11, A_g0_12, A_g0_13, A_g0_14, A_g0_15, A_g0_16, A_r1_1, A_r1_2, A_r1_3, A_g1_4, A_r6_1, A_g6_2, A_a3, A_a4, A_a5, A_a8, A_a9, A_a10, A_a11, A_a12, A_a13, A_a14, A_a15, A_a16, A_a17, A_a18, A_r1_0, A_r6_0, A_c1, A_c6, A_p0_12 he, A_p0_13 he, A_p0_14 he, A_p0_15 he, A_p0_16 he, A_p1_4 he, A_p6_2 he, uA_s, uA_n, uA_uA]
end
end

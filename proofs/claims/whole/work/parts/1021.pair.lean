/-! ===== a call on both sides ===== -/
noncomputable section
def THR (x K : Nat) (m : dMem) : Prop := ∃ M, hB TM 8 (x + 261) M m ∧ M.1 0 0 = Int32.ofNat K
theorem t164 {e : dEnv} {d x K : Nat} {m : dMem} (Z : THR x K m) : dN e (d + 1) 164 [.ref (x + 261)] m = rI (Int32.ofNat K) m := by
  obtain ⟨M, z, k⟩ := Z
  have hm := ov_self z
  refine en164 (by rw [← hm]; exact M_c0) fun t ht => ?_
  obtain ⟨u, rfl⟩ := fu 9 ht rfl
  have g : gI m (x + 261) 10 0 = some (M.1 0 0) := by
    have := M_g0_0 (a := x + 261) (X := M) (m := m)
    rwa [hm] at this
  rw [q164_0, g, k]
  rfl
/-- both answer the same, or the class throws what the reference notes -/
def PAIR (e : dEnv) (x : Nat) (m0 : dMem) (C S0 YB : Nat) (cj rj : Nat) (as : List Value) (ks : Nat → Nat) (m : dMem) : Prop :=
  (∃ v m1, dN e 19 cj (.ref x :: as) m = rI v m1 ∧ OUTL (x + 269) m1 ∧ ∀ m2, (∀ q, q ≠ x + 269 → m2.1 q = m1.1 q) → m2.2 = m1.2 → OUTL (x + 269) m2 → (∀ q, q < x → m2.1 q = m0.1 q) ∧ ∃ m3, dN e 20 rj (.ref (x + 261) :: as) m2 = rI v m3 ∧ THR x 0 m3 ∧ m3.1 (x + 269) = m2.1 (x + 269) ∧ RELX x m0 (C + 2) (S0 + 12) (YB + 50) m3) ∨
  (∃ E m1 B m3, 1 ≤ ks E ∧ ks E ≤ 3 ∧ dN e 19 cj (.ref x :: as) m = some (.inr E, m1) ∧ (∀ q, q < x → m1.1 q = m0.1 q) ∧ dN e 20 rj (.ref (x + 261) :: as) m1 = rI B m3 ∧ THR x (ks E) m3 ∧ RELX x m0 (C + 2) (S0 + 12) (YB + 50) m3)
section
variable {e : dEnv} {x C S0 YB : Nat} {m0 m m1 m2 : dMem} {R I H S M M' R' I' H' S' : bX} {Ar Ar' : Nat → bX} {l l' : List Nat} {cj rj : Nat} {as : List Value} {ks : Nat → Nat} {v : Int32}
theorem hSys_low (Z : hSys x R I H S Ar m) (F : ∀ q, x ≤ q → q < x + 259 → m2.1 q = m.1 q) : hSys x R I H S Ar m2 := by
  obtain ⟨z1, z2, z3, z4, z5⟩ := Z
  refine ⟨hB_mem z1 (fun i hi => F _ (by omega) (by omega)), hB_mem z2 (fun i hi => F _ (by omega) (by omega)), hB_mem z3 (fun i hi => F _ (by omega) (by omega)), hB_mem z4 (fun i hi => F _ (by omega) (by omega)), fun j hj => ?_⟩
  have b := oA_b j hj
  exact hB_mem (z5 j hj) (fun i hi => F _ (by omega) (by omega))
/-- the reference's block is written: the relation holds again -/
theorem rel_M (Zl : ∀ q, q < x → m.1 q = m0.1 q) (Z : hSys x R I H S Ar m) (X : hX (x + 259) (x + 271) C S0 l m) (oL : OUTL (x + 269) m) (oD : OUTD (x + 270) m) (y : yT M' l) (c : CND YB R I H S Ar M') : REL x m0 C S0 YB (ov TM 8 (x + 261) M' m) R I H S Ar M' l := by
  refine ⟨fun q hq => (ov_out (by omega)).trans (Zl q hq), hSys_low Z (fun q h1 h2 => ov_out (by omega)), hX_mem X (fun q hq => ov_out (by omega)) (Nat.le_refl _) (Nat.le_refl _) (Nat.le_refl _), hB_ov, y, ?_, ?_, c⟩
  · obtain ⟨f, z⟩ := oL
    exact ⟨f, (ov_out (by omega)).trans z⟩
  · obtain ⟨f, z⟩ := oD
    exact ⟨f, (ov_out (by omega)).trans z⟩
theorem pair_val (hC : dN e 19 cj (.ref x :: as) m = rI v m1) (Zl : ∀ q, q < x → m1.1 q = m0.1 q) (Z : hSys x R' I' H' S' Ar' m1) (X : hX (x + 259) (x + 271) (C + 2) (S0 + 12) l' m1) (hM : hB TM 8 (x + 261) M m1) (oL : OUTL (x + 269) m1) (oD : OUTD (x + 270) m1) (hR : ∀ m', (∀ q, q < x → m'.1 q = m0.1 q) → ∃ M', dN e 20 rj (.ref (x + 261) :: as) (ov TM 8 (x + 261) M m') = rI v (ov TM 8 (x + 261) M' m') ∧ M'.1 0 0 = Int32.ofNat 0 ∧ yT M' l' ∧ CND (YB + 50) R' I' H' S' Ar' M') : PAIR e x m0 C S0 YB cj rj as ks m := by
  refine Or.inl ⟨v, m1, hC, oL, fun m2 F F2 oL2 => ?_⟩
  obtain ⟨M', g, h0, y, c⟩ := hR m2 (fun q hq => (F q (by omega)).trans (Zl q hq))
  rw [ov_self (hB_mem hM (fun i hi => F _ (by omega)))] at g
  refine ⟨fun q hq => (F q (by omega)).trans (Zl q hq), ov TM 8 (x + 261) M' m2, g, ⟨M', hB_ov, h0⟩, ov_out (by omega), ?_⟩
  refine ⟨R', I', H', S', Ar', M', l', rel_M (fun q hq => (F q (by omega)).trans (Zl q hq)) (hSys_low Z (fun q h1 h2 => F q (by omega))) (hX_mem X (fun q hq => F q (by omega)) (by rw [F2]; exact Nat.le_refl _) (by rw [F2]; exact Nat.le_refl _) (by rw [F2]; exact Nat.le_refl _)) oL2 ?_ y c⟩
  obtain ⟨f, z⟩ := oD
  exact ⟨f, (F _ (by omega)).trans z⟩
theorem pair_exc {E : Nat} (hC : dN e 19 cj (.ref x :: as) m = some (.inr E, m1)) (Zl : ∀ q, q < x → m1.1 q = m0.1 q) (Z : hSys x R' I' H' S' Ar' m1) (X : hX (x + 259) (x + 271) (C + 2) (S0 + 12) l' m1) (hM : hB TM 8 (x + 261) M m1) (oL : OUTL (x + 269) m1) (oD : OUTD (x + 270) m1) (k1 : 1 ≤ ks E) (k3 : ks E ≤ 3) (hR : ∀ m', (∀ q, q < x → m'.1 q = m0.1 q) → ∃ B M', dN e 20 rj (.ref (x + 261) :: as) (ov TM 8 (x + 261) M m') = rI B (ov TM 8 (x + 261) M' m') ∧ M'.1 0 0 = Int32.ofNat (ks E) ∧ yT M' l' ∧ CND (YB + 50) R' I' H' S' Ar' M') : PAIR e x m0 C S0 YB cj rj as ks m := by
  obtain ⟨B, M', g, h0, y, c⟩ := hR m1 Zl
  rw [ov_self hM] at g
  exact Or.inr ⟨E, m1, B, ov TM 8 (x + 261) M' m1, k1, k3, hC, Zl, g, ⟨M', hB_ov, h0⟩, ⟨R', I', H', S', Ar', M', l', rel_M Zl Z X oL oD y c⟩⟩
theorem yT_ag {M M' : bX} {l : List Nat} (h7 : M'.1 7 = M.1 7) (h21 : M'.1 0 21 = M.1 0 21) (Z : yT M l) : yT M' l := by
  obtain ⟨a, b, c⟩ := Z
  exact ⟨h21.trans a, b, fun i hi => by rw [h7]; exact c i hi⟩
/-- a query answers -/
theorem pair_q0 (Z : REL x m0 C S0 YB m R I H S Ar M l) (hC : dN e 19 cj (.ref x :: as) m = rI v m) (hR : ∀ m', dN e 20 rj (.ref (x + 261) :: as) (ov TM 8 (x + 261) M m') = rI v (ov TM 8 (x + 261) (mT M 0) m')) : PAIR e x m0 C S0 YB cj rj as ks m := by
  obtain ⟨z1, z2, z3, z4, z5, z6, z7, z8⟩ := Z
  exact pair_val hC z1 z2 (hX_mem z3 (fun _ _ => rfl) (Nat.le_refl _) (by omega) (by omega)) z4 z6 z7 (fun m' _ => ⟨mT M 0, hR m', mT_00 M 0, yT_ag (mT_n (by omega)) (mT_0k (by omega)) z5, CND_mono (by omega) (CND_ag AGM_mT (fun _ _ _ => rfl) z8)⟩)
/-- a call is refused -/
theorem pair_e {E : Nat} {B : Int32} (Z : REL x m0 C S0 YB m R I H S Ar M l) (hC : dN e 19 cj (.ref x :: as) m = dTh E m) (k1 : 1 ≤ ks E) (k3 : ks E ≤ 3) (hR : ∀ m', dN e 20 rj (.ref (x + 261) :: as) (ov TM 8 (x + 261) M m') = rI B (ov TM 8 (x + 261) (mT M (ks E)) m')) : PAIR e x m0 C S0 YB cj rj as ks m := by
  obtain ⟨z1, z2, z3, z4, z5, z6, z7, z8⟩ := Z
  have e1 : ∀ q, ((m.1, m.2.1 + 1, m.2.2 + 6) : dMem).1 q = m.1 q := fun _ => rfl
  refine pair_exc (m1 := (m.1, m.2.1 + 1, m.2.2 + 6)) hC z1 (hSys_1 z2 rfl) (hX_mem z3 (fun _ _ => rfl) ?_ ?_ ?_) (hB_mem z4 (fun _ _ => rfl)) z6 z7 k1 k3 (fun m' _ => ⟨B, mT M (ks E), hR m', mT_00 M _, yT_ag (mT_n (by omega)) (mT_0k (by omega)) z5, CND_mono (by omega) (CND_ag AGM_mT (fun _ _ _ => rfl) z8)⟩)
  · show m.2.1 ≤ m.2.1 + 1
    omega
  · show m.2.1 + 1 + C ≤ m.2.1 + (C + 2)
    omega
  · show m.2.2 + 6 + S0 ≤ m.2.2 + (S0 + 12)
    omega
/-- a forecast answers -/
theorem pair_f {F : bX} {t : sV} (Z : REL x m0 C S0 YB m R I H S Ar M l) (hC : dN e 19 cj (.ref x :: as) m = rI v (ov TA 19 (x + 45) F m)) (hR : ∀ m', dN e 20 rj (.ref (x + 261) :: as) (ov TM 8 (x + 261) M m') = rI v (ov TM 8 (x + 261) (bkM M t) m')) : PAIR e x m0 C S0 YB cj rj as ks m := by
  obtain ⟨z1, z2, z3, z4, z5, z6, z7, z8⟩ := Z
  have o : ∀ q, q < x + 45 ∨ x + 64 ≤ q → (ov TA 19 (x + 45) F m).1 q = m.1 q := fun q hq => ov_out (by omega)
  have b7 : (bkM M t).1 7 = M.1 7 := (AGM_bk (M := M) (t := t)).2.2.2.2.2.2
  have b21 : (bkM M t).1 0 21 = M.1 0 21 := (AGM_bk (M := M) (t := t)).1 21 (by omega)
  have b0 : (bkM M t).1 0 0 = Int32.ofNat 0 := by
    unfold bkM
    rw [uA_n (by omega), uA_n (by omega), mT_00]
  refine pair_val hC (fun q hq => (o q (by omega)).trans (z1 q hq)) (fc_hS z2 F).1 (hX_mem z3 (fun q hq => o q (by omega)) (Nat.le_refl _) (by show m.2.1 + C ≤ m.2.1 + (C + 2); omega) (by show m.2.2 + S0 ≤ m.2.2 + (S0 + 12); omega)) (hB_mem z4 (fun i hi => o _ (by omega))) ?_ ?_ (fun m' _ => ⟨_, hR m', b0, yT_ag b7 b21 z5, CND_mono (by omega) (CND_ag AGM_bk (fun i h1 h2 => seA_n h1) z8)⟩)
  · obtain ⟨f, z⟩ := z6
    exact ⟨f, (o _ (by omega)).trans z⟩
  · obtain ⟨f, z⟩ := z7
    exact ⟨f, (o _ (by omega)).trans z⟩
/-- a text is written -/
theorem pair_t (Z : REL x m0 C S0 YB m R I H S Ar M l) (hC : dN e 19 cj (.ref x :: as) m = rI v m1) (X : hX (x + 259) (x + 271) C S0 l' m1) (F : frX (x + 259) (x + 271) m m1) (hR : ∀ m', ∃ M', dN e 20 rj (.ref (x + 261) :: as) (ov TM 8 (x + 261) M m') = rI v (ov TM 8 (x + 261) M' m') ∧ yT M' l' ∧ mX (mT M 0) M') : PAIR e x m0 C S0 YB cj rj as ks m := by
  obtain ⟨z1, z2, z3, z4, z5, z6, z7, z8⟩ := Z
  have o : ∀ q, q < x + 271 → q ≠ x + 259 → q ≠ x + 260 → m1.1 q = m.1 q := fun q h1 h2 h3 => F q h1 h2 h3
  have key : ∀ M' : bX, mX (mT M 0) M' → CND YB R I H S Ar M' := by
    intro M' G
    have G' : ∀ i, i ≠ 0 → i ≠ 7 → M'.1 i = M.1 i := fun i h1 h2 => (G.1 i h1 h2).trans (mT_n h1)
    obtain ⟨⟨k, B, b1, b2, b3, b4, b5⟩, w2, w3, w4, w5, w6⟩ := z8
    have k0 : ∀ k, k ≠ 21 → k ≠ 0 → M'.1 0 k = M.1 0 k := fun k h1 h2 => (G.2 k h1).trans (mT_0k h2)
    refine ⟨⟨k, B, b1, b2, (k0 8 (by omega) (by omega)).trans b3, b4, fun j hj => ⟨(b5 j hj).1, by rw [G' 5 (by omega) (by omega)]; exact (b5 j hj).2⟩⟩, by rw [k0 9 (by omega) (by omega)]; exact w2, by rw [k0 10 (by omega) (by omega)]; exact w3, ?_, HIS_ag (k0 5 (by omega) (by omega)) (fun j _ => by rw [G' 1 (by omega) (by omega)]) (fun j _ => by rw [G' 3 (by omega) (by omega)]) (fun _ _ _ => rfl) w5, SLO_ag (G' 4 (by omega) (by omega)) (fun j _ => by rw [G' 1 (by omega) (by omega)]) (fun j _ => by rw [G' 3 (by omega) (by omega)]) (fun _ _ _ => rfl) w6⟩
    rcases w4 with ⟨a, b, u⟩ | ⟨a, b, Y, y1, y2⟩
    · exact Or.inl ⟨a, by rw [k0 1 (by omega) (by omega)]; exact b, by rw [G' 2 (by omega) (by omega)]; exact u⟩
    · exact Or.inr ⟨a, by rw [k0 1 (by omega) (by omega)]; exact b, Y, y1, by rw [G' 1 (by omega) (by omega), G' 2 (by omega) (by omega)]; exact y2⟩
  refine pair_val hC (fun q hq => (o q (by omega) (by omega) (by omega)).trans (z1 q hq)) (hSys_low z2 (fun q h1 h2 => o q (by omega) (by omega) (by omega))) (hX_mem X (fun _ _ => rfl) (Nat.le_refl _) (by omega) (by omega)) (hB_mem z4 (fun i hi => o _ (by omega) (by omega) (by omega))) ?_ ?_ (fun m' _ => by
    obtain ⟨M', g, y, G⟩ := hR m'
    exact ⟨M', g, (G.2 0 (by omega)).trans (mT_00 M 0), y, CND_mono (by omega) (key M' G)⟩)
  · obtain ⟨f, z⟩ := z6
    exact ⟨f, (o _ (by omega) (by omega) (by omega)).trans z⟩
  · obtain ⟨f, z⟩ := z7
    exact ⟨f, (o _ (by omega) (by omega) (by omega)).trans z⟩
end
end

/-! ===== a record class and a reader are added ===== -/
noncomputable section
theorem pkN_congr {h g : sV} {p q : Nat} (e : ∀ i, i < 6 → h (p + i) = g (q + i)) : pkN h p = pkN g q := by
  unfold pkN
  exact upF_congr (fun i x hi => by rw [e i hi])
theorem WN_congr {h g : sV} {p q : Nat} (e : ∀ i, i < 6 → h (p + i) = g (q + i)) (W : WN g q) : WN h p := by
  obtain ⟨w1, w2, w3⟩ := W
  refine ⟨fun i hi => by rw [e i hi]; exact w1 i hi, ?_, fun i hi hz => ?_⟩
  · have := e 0 (by omega)
    rw [Nat.add_zero, Nat.add_zero] at this
    rw [this]
    exact w2
  · rw [e (i + 1) (by omega)]
    rw [e i (by omega)] at hz
    exact w3 i hi hz
theorem clsH_e {T : dTok} {c p q f i : Nat} {h : sV} : clsH T c h p q f i = if i = 2 then Int32.ofNat (nN (h 2) + 1) else if i = 110 + nN (h 2) then Int32.ofNat f else if i = 102 + nN (h 2) then Int32.ofNat q else if i = 94 + nN (h 2) then Int32.ofNat p else nmW T c h (46 + 6 * nN (h 2)) i := rfl
theorem rdrH_e {T : dTok} {c p i : Nat} {h : sV} : rdrH T c h p i = if i = 3 then Int32.ofNat (nN (h 3) + 1) else if i = 40 + nN (h 3) then Int32.ofNat p else nmW T c h (4 + 6 * nN (h 3)) i := rfl
/-- outside of what is written -/
theorem clsH_o {T : dTok} {c p q f i : Nat} {h : sV} (h2 : i ≠ 2) (h3 : i ≠ 110 + nN (h 2)) (h4 : i ≠ 102 + nN (h 2)) (h5 : i ≠ 94 + nN (h 2)) (h6 : i < 46 + 6 * nN (h 2) ∨ 46 + 6 * nN (h 2) + 6 ≤ i) : clsH T c h p q f i = h i := by
  rw [clsH_e, if_neg h2, if_neg h3, if_neg h4, if_neg h5, nmW_o h6]
theorem rdrH_o {T : dTok} {c p i : Nat} {h : sV} (h2 : i ≠ 3) (h3 : i ≠ 40 + nN (h 3)) (h6 : i < 4 + 6 * nN (h 3) ∨ 4 + 6 * nN (h 3) + 6 ≤ i) : rdrH T c h p i = h i := by
  rw [rdrH_e, if_neg h2, if_neg h3, nmW_o h6]
/-- rows over other told numbers, alike where a box looks -/
theorem WS_told {Y : Nat} {h h' s : sV} (W : WS Y h s) (m : mkN h' = mkN h) (c : nN (h 2) ≤ nN (h' 2)) (r : nN (h 3) ≤ nN (h' 3)) (p : ∀ k, k < nN (h 2) → h' (94 + k) = h (94 + k)) : WS Y h' s := by
  obtain ⟨a1, a2, a3, a4, a5, a6⟩ := W
  refine ⟨a1, a2, a3, fun k hk => ?_, fun i hi => ?_, a6⟩
  · obtain ⟨b1, b2, b3, b4, b5, b6, b7, b8⟩ := a4 k hk
    refine ⟨b1, by omega, b3, ?_, ?_, ?_, b7, fun i hi => ?_⟩
    · rw [p _ b2]
      exact b4
    · rw [m]
      exact b5
    · rcases b6 with z | ⟨z1, z2⟩
      · exact Or.inl z
      · exact Or.inr ⟨z1, by omega⟩
    · obtain ⟨z1, z2⟩ := b8 i hi
      exact ⟨z1, by omega⟩
  · obtain ⟨b1, b2, b3⟩ := a5 i hi
    refine ⟨b1, b2, ?_⟩
    have b4 := (a4 _ b2).2.1
    have : dueS s h' (nN (s (3 + i))) = dueS s h (nN (s (3 + i))) := by
      unfold dueS
      rw [p _ b4]
    rw [this]
    exact b3
theorem WH_cls {T : dTok} {c p q f : Nat} {h : sV} (W : WH h) (Z : TOK T) (hl : c < tN T) (hk : tK T c = 1) (hn : nN (h 2) ≠ 8) (p1 : 1 ≤ p) (p2 : p ≤ 50) (q2 : q ≤ 50) (f2 : f ≤ 1) : WH (clsH T c h p q f) := by
  obtain ⟨w0, w1, w2, w3, w4, w5⟩ := W
  have hn8 : nN (h 2) ≤ 8 := w2.2.2
  have e0 : clsH T c h p q f 0 = h 0 := clsH_o (by omega) (by omega) (by omega) (by omega) (by omega)
  have e1 : clsH T c h p q f 1 = h 1 := clsH_o (by omega) (by omega) (by omega) (by omega) (by omega)
  have e3 : clsH T c h p q f 3 = h 3 := clsH_o (by omega) (by omega) (by omega) (by omega) (by omega)
  have e2 : clsH T c h p q f 2 = Int32.ofNat (nN (h 2) + 1) := by rw [clsH_e, if_pos rfl]
  have e2n : nN (clsH T c h p q f 2) = nN (h 2) + 1 := by rw [e2, nN_o (by omega)]
  refine ⟨by rw [e0]; exact w0, by rw [e1]; exact w1, by rw [e2]; exact okI_of (by omega) (by omega) (by omega), by rw [e3]; exact w3, fun k hk2 => ?_, fun r hr => ?_⟩
  · rw [e2n] at hk2
    by_cases z : k = nN (h 2)
    · subst z
      have g1 : clsH T c h p q f (94 + nN (h 2)) = Int32.ofNat p := by rw [clsH_e, if_neg (by omega), if_neg (by omega), if_neg (by omega), if_pos rfl]
      have g2 : clsH T c h p q f (102 + nN (h 2)) = Int32.ofNat q := by rw [clsH_e, if_neg (by omega), if_neg (by omega), if_pos rfl]
      have g3 : clsH T c h p q f (110 + nN (h 2)) = Int32.ofNat f := by rw [clsH_e, if_neg (by omega), if_pos rfl]
      rw [g1, g2, g3]
      refine ⟨okI_of p1 p2 (by omega), okI_of (by omega) q2 (by omega), okI_of (by omega) f2 (by omega), WN_congr (fun i hi => ?_) (nm_W (p := 46 + 6 * nN (h 2)) (h := h) Z hl hk)⟩
      rw [clsH_e, if_neg (by omega), if_neg (by omega), if_neg (by omega), if_neg (by omega)]
    · obtain ⟨v1, v2, v3, v4⟩ := w4 k (by omega)
      rw [clsH_o (by omega) (by omega) (by omega) (by omega) (by omega), clsH_o (by omega) (by omega) (by omega) (by omega) (by omega), clsH_o (by omega) (by omega) (by omega) (by omega) (by omega)]
      exact ⟨v1, v2, v3, WN_congr (fun i hi => clsH_o (by omega) (by omega) (by omega) (by omega) (by omega)) v4⟩
  · rw [e3] at hr
    have hr6 : nN (h 3) ≤ 6 := w3.2.2
    obtain ⟨v1, v2⟩ := w5 r hr
    rw [clsH_o (by omega) (by omega) (by omega) (by omega) (by omega)]
    exact ⟨v1, WN_congr (fun i hi => clsH_o (by omega) (by omega) (by omega) (by omega) (by omega)) v2⟩
theorem WH_rdr {T : dTok} {c p : Nat} {h : sV} (W : WH h) (Z : TOK T) (hl : c < tN T) (hk : tK T c = 1) (hn : nN (h 3) ≠ 6) (p2 : p ≤ 4) : WH (rdrH T c h p) := by
  obtain ⟨w0, w1, w2, w3, w4, w5⟩ := W
  have hn6 : nN (h 3) ≤ 6 := w3.2.2
  have hn8 : nN (h 2) ≤ 8 := w2.2.2
  have e0 : rdrH T c h p 0 = h 0 := rdrH_o (by omega) (by omega) (by omega)
  have e1 : rdrH T c h p 1 = h 1 := rdrH_o (by omega) (by omega) (by omega)
  have e2 : rdrH T c h p 2 = h 2 := rdrH_o (by omega) (by omega) (by omega)
  have e3 : rdrH T c h p 3 = Int32.ofNat (nN (h 3) + 1) := by rw [rdrH_e, if_pos rfl]
  have e3n : nN (rdrH T c h p 3) = nN (h 3) + 1 := by rw [e3, nN_o (by omega)]
  refine ⟨by rw [e0]; exact w0, by rw [e1]; exact w1, by rw [e2]; exact w2, by rw [e3]; exact okI_of (by omega) (by omega) (by omega), fun k hk2 => ?_, fun r hr => ?_⟩
  · rw [e2] at hk2
    obtain ⟨v1, v2, v3, v4⟩ := w4 k hk2
    rw [rdrH_o (by omega) (by omega) (by omega), rdrH_o (by omega) (by omega) (by omega), rdrH_o (by omega) (by omega) (by omega)]
    exact ⟨v1, v2, v3, WN_congr (fun i hi => rdrH_o (by omega) (by omega) (by omega)) v4⟩
  · rw [e3n] at hr
    by_cases z : r = nN (h 3)
    · subst z
      have g1 : rdrH T c h p (40 + nN (h 3)) = Int32.ofNat p := by rw [rdrH_e, if_neg (by omega), if_pos rfl]
      rw [g1]
      refine ⟨okI_of (by omega) p2 (by omega), WN_congr (fun i hi => ?_) (nm_W (p := 4 + 6 * nN (h 3)) (h := h) Z hl hk)⟩
      rw [rdrH_e, if_neg (by omega), if_neg (by omega)]
    · obtain ⟨v1, v2⟩ := w5 r (by omega)
      rw [rdrH_o (by omega) (by omega) (by omega)]
      exact ⟨v1, WN_congr (fun i hi => rdrH_o (by omega) (by omega) (by omega)) v2⟩
section
variable {e : dEnv} {d a c Y : Nat} {T : dTok} {A : bX} {h s : sV} {m : dMem}
theorem k_addC (he : e.1 ≤ a) (W : OKA Y A h s) (Z : TOK T) (hl : c < tN T) (hk : tK T c = 1) (hL : tL T c ≤ 6) (hn : nN (h 2) ≠ 8) {p q : Nat} {f : Bool} (p1 : 1 ≤ p) (p2 : p ≤ 50) (q2 : q ≤ 50) : ∃ A', dN e (d + 1) 83 [.ref (a + 1), .long (nmQ T c (tL T c)), .int (Int32.ofNat p), .int (Int32.ofNat q), .int (bI f)] (ov TA 19 a A m) = some (.inl none, ov TA 19 a A' m) ∧ OKA Y A' (clsH T c h p q (bif f then 1 else 0)) s := by
  obtain ⟨W1, W2, W3⟩ := W
  have hn8 : nN (h 2) ≤ 8 := W3.2.2.1.2.2
  obtain ⟨r1, r2, r3, r4, r5, r6⟩ := W1.2.2.2.1
  have hcnt : A.1 1 4 = Int32.ofNat (nN (h 2)) := r3.trans W3.2.2.1.1
  have hf : bI f = Int32.ofNat (bif f then 1 else 0) := bI_n f
  have hf1 : (bif f then 1 else 0) ≤ 1 := by cases f <;> decide
  refine ⟨uA (uA (uA (uA (uL A 2 (dFun (A.2 2) (nN (h 2)) (nmQ T c (tL T c)))) 3 (wr (A.1 3) (nN (h 2)) (Int32.ofNat p))) 4 (wr (A.1 4) (nN (h 2)) (Int32.ofNat q))) 5 (wr (A.1 5) (nN (h 2)) (bI f))) 1 (wr (A.1 1) 4 (Int32.ofNat (nN (h 2) + 1))), ?_, ?_⟩
  · refine en83 A_c1 fun t ht => ?_
    obtain ⟨u, rfl⟩ := fu 9 ht rfl
    rw [q83_0]
    (try rw [A_g1_4, hcnt])
    (try simp only [bd_s])
    rw [if_pos (by rw [nLt (by omega) (by omega)]; omega)]
    (try rw [A_r1_0])
    (try simp only [bd_s])
    (try rw [A_g1_4, hcnt])
    (try simp only [bd_s])
    rw [A_s2 he (by omega)]
    (try simp only [bd_s])
    (try rw [A_r1_1])
    (try simp only [bd_s])
    (try rw [A_g1_4, uL_1, hcnt])
    (try simp only [bd_s])
    rw [A_s3 he (by omega)]
    (try simp only [bd_s])
    (try rw [A_r1_2])
    (try simp only [bd_s])
    (try rw [A_g1_4])
    (try simp only [bd_s])
    simp (disch := omega) only [uA_n, uL_1, hcnt]
    (try simp only [bd_s])
    rw [A_s4 he (by omega)]
    (try simp only [bd_s])
    (try rw [A_r1_3])
    (try simp only [bd_s])
    (try rw [A_g1_4])
    (try simp only [bd_s])
    simp (disch := omega) only [uA_n, uL_1, hcnt]
    (try simp only [bd_s])
    rw [A_s5 he (by omega)]
    (try simp only [bd_s])
    (try rw [A_g1_4])
    (try simp only [bd_s])
    simp (disch := omega) only [uA_n, uL_1, hcnt]
    (try simp only [bd_s])
    rw [nAdd, A_p1_4 he]
    (try simp only [bd_s])
    rw [q83_1, cvI4]
    rfl
  · have wh := WH_cls (f := bif f then 1 else 0) W3 Z hl hk hn p1 p2 q2 hf1
    have e0 : clsH T c h p q (bif f then 1 else 0) 0 = h 0 := clsH_o (by omega) (by omega) (by omega) (by omega) (by omega)
    have e1 : clsH T c h p q (bif f then 1 else 0) 1 = h 1 := clsH_o (by omega) (by omega) (by omega) (by omega) (by omega)
    have e3 : clsH T c h p q (bif f then 1 else 0) 3 = h 3 := clsH_o (by omega) (by omega) (by omega) (by omega) (by omega)
    have e2 : clsH T c h p q (bif f then 1 else 0) 2 = Int32.ofNat (nN (h 2) + 1) := by rw [clsH_e, if_pos rfl]
    have e2n : nN (clsH T c h p q (bif f then 1 else 0) 2) = nN (h 2) + 1 := by rw [e2, nN_o (by omega)]
    have hr6 : nN (h 3) ≤ 6 := W3.2.2.2.1.2.2
    refine ⟨⟨W1.1, W1.2.1, W1.2.2.1, ⟨r1.trans e0.symm, r2.trans e1.symm, ?_, r4.trans e3.symm, fun k hk2 => ?_, fun r hr => ?_⟩, fun k hk2 => ?_, W1.2.2.2.2.2⟩, WS_told W2 ?_ (by omega) (by rw [e3]; exact Nat.le_refl _) (fun k hk2 => ?_), wh⟩
    · show wr (A.1 1) 4 (Int32.ofNat (nN (h 2) + 1)) 4 = _
      rw [wr_s, e2]
    · rw [e2n] at hk2
      show wr (A.1 3) (nN (h 2)) (Int32.ofNat p) k = _ ∧ wr (A.1 4) (nN (h 2)) (Int32.ofNat q) k = _ ∧ wr (A.1 5) (nN (h 2)) (bI f) k = _ ∧ dFun (A.2 2) (nN (h 2)) (nmQ T c (tL T c)) k = _
      by_cases z : k = nN (h 2)
      · subst z
        rw [wr_s, wr_s, wr_s]
        refine ⟨?_, ?_, ?_, ?_⟩
        · rw [clsH_e, if_neg (by omega), if_neg (by omega), if_neg (by omega), if_pos rfl]
        · rw [clsH_e, if_neg (by omega), if_neg (by omega), if_pos rfl]
        · rw [clsH_e, if_neg (by omega), if_pos rfl, hf]
        · unfold dFun
          rw [if_pos rfl, nm_pk (p := 46 + 6 * nN (h 2)) (h := h) hL]
          refine pkN_congr (fun i hi => ?_)
          rw [clsH_e, if_neg (by omega), if_neg (by omega), if_neg (by omega), if_neg (by omega)]
      · obtain ⟨v1, v2, v3, v4⟩ := r5 k (by omega)
        rw [wr_n z, wr_n z, wr_n z]
        unfold dFun
        rw [if_neg z, clsH_o (by omega) (by omega) (by omega) (by omega) (by omega), clsH_o (by omega) (by omega) (by omega) (by omega) (by omega), clsH_o (by omega) (by omega) (by omega) (by omega) (by omega)]
        exact ⟨v1, v2, v3, v4.trans (pkN_congr (fun i hi => (clsH_o (by omega) (by omega) (by omega) (by omega) (by omega)).symm))⟩
    · rw [e3] at hr
      obtain ⟨v1, v2⟩ := r6 r hr
      show A.1 8 r = _ ∧ A.2 7 r = _
      rw [clsH_o (by omega) (by omega) (by omega) (by omega) (by omega)]
      exact ⟨v1, v2.trans (pkN_congr (fun i hi => (clsH_o (by omega) (by omega) (by omega) (by omega) (by omega)).symm))⟩
    · exact W1.2.2.2.2.1 k hk2
    · unfold mkN
      rw [e0, e1]
    · exact clsH_o (by omega) (by omega) (by omega) (by omega) (by omega)
theorem k_addR (he : e.1 ≤ a) (W : OKA Y A h s) (Z : TOK T) (hl : c < tN T) (hk : tK T c = 1) (hL : tL T c ≤ 6) (hn : nN (h 3) ≠ 6) {p : Nat} (p2 : p ≤ 4) : ∃ A', dN e (d + 1) 80 [.ref (a + 6), .long (nmQ T c (tL T c)), .int (Int32.ofNat p)] (ov TA 19 a A m) = some (.inl none, ov TA 19 a A' m) ∧ OKA Y A' (rdrH T c h p) s := by
  obtain ⟨W1, W2, W3⟩ := W
  have hn8 : nN (h 2) ≤ 8 := W3.2.2.1.2.2
  have hr6 : nN (h 3) ≤ 6 := W3.2.2.2.1.2.2
  obtain ⟨r1, r2, r3, r4, r5, r6⟩ := W1.2.2.2.1
  have hcnt : A.1 6 2 = Int32.ofNat (nN (h 3)) := r4.trans W3.2.2.2.1.1
  refine ⟨uA (uA (uL A 7 (dFun (A.2 7) (nN (h 3)) (nmQ T c (tL T c)))) 8 (wr (A.1 8) (nN (h 3)) (Int32.ofNat p))) 6 (wr (A.1 6) 2 (Int32.ofNat (nN (h 3) + 1))), ?_, ?_⟩
  · refine en80 A_c6 fun t ht => ?_
    obtain ⟨u, rfl⟩ := fu 9 ht rfl
    rw [q80_0]
    (try rw [A_g6_2, hcnt])
    (try simp only [bd_s])
    rw [if_pos (by rw [nLt (by omega) (by omega)]; omega)]
    (try rw [A_r6_0])
    (try simp only [bd_s])
    (try rw [A_g6_2, hcnt])
    (try simp only [bd_s])
    rw [A_s7 he (by omega)]
    (try simp only [bd_s])
    (try rw [A_r6_1])
    (try simp only [bd_s])
    (try rw [A_g6_2, uL_1, hcnt])
    (try simp only [bd_s])
    rw [A_s8 he (by omega)]
    (try simp only [bd_s])
    (try rw [A_g6_2])
    (try simp only [bd_s])
    simp (disch := omega) only [uA_n, uL_1, hcnt]
    (try simp only [bd_s])
    rw [nAdd, A_p6_2 he]
    (try simp only [bd_s])
    rw [q80_1]
    rfl
  · have wh := WH_rdr (p := p) W3 Z hl hk hn p2
    have e0 : rdrH T c h p 0 = h 0 := rdrH_o (by omega) (by omega) (by omega)
    have e1 : rdrH T c h p 1 = h 1 := rdrH_o (by omega) (by omega) (by omega)
    have e2 : rdrH T c h p 2 = h 2 := rdrH_o (by omega) (by omega) (by omega)
    have e3 : rdrH T c h p 3 = Int32.ofNat (nN (h 3) + 1) := by rw [rdrH_e, if_pos rfl]
    have e3n : nN (rdrH T c h p 3) = nN (h 3) + 1 := by rw [e3, nN_o (by omega)]
    refine ⟨⟨W1.1, W1.2.1, W1.2.2.1, ⟨r1.trans e0.symm, r2.trans e1.symm, r3.trans e2.symm, ?_, fun k hk2 => ?_, fun r hr => ?_⟩, fun k hk2 => ?_, W1.2.2.2.2.2⟩, WS_told W2 ?_ (by rw [e2]; exact Nat.le_refl _) (by omega) (fun k hk2 => ?_), wh⟩
    · show wr (A.1 6) 2 (Int32.ofNat (nN (h 3) + 1)) 2 = _
      rw [wr_s, e3]
    · rw [e2] at hk2
      obtain ⟨v1, v2, v3, v4⟩ := r5 k hk2
      show A.1 3 k = _ ∧ A.1 4 k = _ ∧ A.1 5 k = _ ∧ A.2 2 k = _
      rw [rdrH_o (by omega) (by omega) (by omega), rdrH_o (by omega) (by omega) (by omega), rdrH_o (by omega) (by omega) (by omega)]
      exact ⟨v1, v2, v3, v4.trans (pkN_congr (fun i hi => (rdrH_o (by omega) (by omega) (by omega)).symm))⟩
    · rw [e3n] at hr
      show wr (A.1 8) (nN (h 3)) (Int32.ofNat p) r = _ ∧ dFun (A.2 7) (nN (h 3)) (nmQ T c (tL T c)) r = _
      by_cases z : r = nN (h 3)
      · subst z
        rw [wr_s]
        refine ⟨?_, ?_⟩
        · rw [rdrH_e, if_neg (by omega), if_pos rfl]
        · unfold dFun
          rw [if_pos rfl, nm_pk (p := 4 + 6 * nN (h 3)) (h := h) hL]
          refine pkN_congr (fun i hi => ?_)
          rw [rdrH_e, if_neg (by omega), if_neg (by omega)]
      · obtain ⟨v1, v2⟩ := r6 r (by omega)
        rw [wr_n z]
        unfold dFun
        rw [if_neg z, rdrH_o (by omega) (by omega) (by omega)]
        exact ⟨v1, v2.trans (pkN_congr (fun i hi => (rdrH_o (by omega) (by omega) (by omega)).symm))⟩
    · exact W1.2.2.2.2.1 k hk2
    · unfold mkN
      rw [e0, e1]
    · exact rdrH_o (by omega) (by omega) (by omega)
end
end

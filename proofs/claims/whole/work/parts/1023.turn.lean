/-! ===== a turn of the law, call by call (printed by wip/whole/trn.py) ===== -/
noncomputable section
/-- a call that throws nothing -/
def PAIRD (e : dEnv) (x : Nat) (m0 : dMem) (C S0 YB : Nat) (cj rj : Nat) (as : List Value) (m : dMem) : Prop := ∃ v m1 m3, dN e 20 cj (.ref x :: as) m = rI v m1 ∧ (∀ q, q < x → m1.1 q = m0.1 q) ∧ dN e 20 rj (.ref (x + 261) :: as) m1 = rI v m3 ∧ RELX x m0 (C + 2) (S0 + 12) (YB + 50) m3
section
variable {e : dEnv} {x l0 C S0 YB : Nat} {m0 m m1 m2 : dMem} {i v : Int32}
theorem trn1 (hm : ∀ q, q < x → m.1 q = m0.1 q) (hl : l0 < x) {y1 y2 y3 y4 y5 : Int32} (a1 : aI m0 0 l0 (i + Int32.ofNat 1) = some y1) (a2 : aI m0 0 l0 (i + Int32.ofNat 2) = some y2) (a3 : aI m0 0 l0 (i + Int32.ofNat 3) = some y3) (a4 : aI m0 0 l0 (i + Int32.ofNat 4) = some y4) (a5 : aI m0 0 l0 (i + Int32.ofNat 5) = some y5) (P : PAIRD e x m0 C S0 YB 88 200 [.int y1, .int y2, .int y3, .int y4, .int y5] m) : TRN e x l0 m0 C S0 YB i 1 m := by
  have r1 : ∀ m' : dMem, (∀ q, q < x → m'.1 q = m0.1 q) → aI m' 0 l0 (i + Int32.ofNat 1) = some y1 := fun m' h => (aI_m (h l0 hl)).trans a1
  have r2 : ∀ m' : dMem, (∀ q, q < x → m'.1 q = m0.1 q) → aI m' 0 l0 (i + Int32.ofNat 2) = some y2 := fun m' h => (aI_m (h l0 hl)).trans a2
  have r3 : ∀ m' : dMem, (∀ q, q < x → m'.1 q = m0.1 q) → aI m' 0 l0 (i + Int32.ofNat 3) = some y3 := fun m' h => (aI_m (h l0 hl)).trans a3
  have r4 : ∀ m' : dMem, (∀ q, q < x → m'.1 q = m0.1 q) → aI m' 0 l0 (i + Int32.ofNat 4) = some y4 := fun m' h => (aI_m (h l0 hl)).trans a4
  have r5 : ∀ m' : dMem, (∀ q, q < x → m'.1 q = m0.1 q) → aI m' 0 l0 (i + Int32.ofNat 5) = some y5 := fun m' h => (aI_m (h l0 hl)).trans a5
  obtain ⟨v, m1, m3, hC, low, g, Z⟩ := P
  refine ⟨m3, Z, fun t => ⟨t + 7, by omega, ?_⟩⟩
  rw [q365_1]
  rw [r1 m hm]
  (try simp only [bd_s])
  rw [r2 m hm]
  (try simp only [bd_s])
  rw [r3 m hm]
  (try simp only [bd_s])
  rw [r4 m hm]
  (try simp only [bd_s])
  rw [r5 m hm]
  (try simp only [bd_s])
  rw [hC, kI_r]
  rw [r1 m1 low]
  (try simp only [bd_s])
  rw [r2 m1 low]
  (try simp only [bd_s])
  rw [r3 m1 low]
  (try simp only [bd_s])
  rw [r4 m1 low]
  (try simp only [bd_s])
  rw [r5 m1 low]
  (try simp only [bd_s])
  rw [g, kI_r, if_pos rfl]
theorem trn2 (he : e.1 ≤ x) (hm : ∀ q, q < x → m.1 q = m0.1 q) (hl : l0 < x) {y1 : Int32} (a1 : aI m0 0 l0 (i + Int32.ofNat 1) = some y1) (P : PAIR e x m0 C S0 YB 89 230 [.int y1] (ks2 2 3) m) : TRN e x l0 m0 C S0 YB i 2 m := by
  have r1 : ∀ m' : dMem, (∀ q, q < x → m'.1 q = m0.1 q) → aI m' 0 l0 (i + Int32.ofNat 1) = some y1 := fun m' h => (aI_m (h l0 hl)).trans a1
  rcases P with ⟨v, m1, hC, oL, hR⟩ | ⟨E, m1, B, m3, k1, k3, hC, low, g, T, Z⟩
  · obtain ⟨m2, s1, s2, s3, s4, s5⟩ := sL_o (e := e) (by omega) oL (v := v.toInt64)
    obtain ⟨low2, m3, g, T, q, Z⟩ := hR m2 s3 s4 s5
    have q' := (aL_m (k := 1) (i := Int32.ofNat 0) q).trans s2
    refine ⟨m3, Z, fun t => ⟨t + 5, by omega, ?_⟩⟩
    rw [q365_2]
    rw [r1 m hm]
    (try simp only [bd_s])
    rw [w306_0 hC s1, kI_r]
    rw [r1 m2 low2]
    (try simp only [bd_s])
    rw [g, kI_r, t164 T, kI_r, if_pos rfl, q365_66, if_pos rfl, q', bd_s]
    rw [if_pos (lg_e _), q365_67]
  · rcases ks2_c k1 with rfl | rfl
    · have T' : THR x 1 m3 := T
      refine ⟨m3, Z, fun t => ⟨t + 5, by omega, ?_⟩⟩
      rw [q365_2]
      rw [r1 m hm]
      (try simp only [bd_s])
      rw [w306_e2 hC, kI_r]
      rw [r1 m1 low]
      (try simp only [bd_s])
      rw [g, kI_r, t164 T', kI_r, if_pos rfl, q365_66, if_neg (by decide +kernel), q365_67]
    · have T' : THR x 2 m3 := T
      refine ⟨m3, Z, fun t => ⟨t + 5, by omega, ?_⟩⟩
      rw [q365_2]
      rw [r1 m hm]
      (try simp only [bd_s])
      rw [w306_e3 hC, kI_r]
      rw [r1 m1 low]
      (try simp only [bd_s])
      rw [g, kI_r, t164 T', kI_r, if_pos rfl, q365_66, if_neg (by decide +kernel), q365_67]
theorem trn3 (hm : ∀ q, q < x → m.1 q = m0.1 q) (hl : l0 < x) (P : PAIRD e x m0 C S0 YB 90 202 [] m) : TRN e x l0 m0 C S0 YB i 3 m := by
  obtain ⟨v, m1, m3, hC, low, g, Z⟩ := P
  refine ⟨m3, Z, fun t => ⟨t + 7, by omega, ?_⟩⟩
  rw [q365_3]
  rw [hC, kI_r]
  rw [g, kI_r, if_pos rfl]
theorem trn4 (hm : ∀ q, q < x → m.1 q = m0.1 q) (hl : l0 < x) (P : PAIRD e x m0 C S0 YB 91 203 [] m) : TRN e x l0 m0 C S0 YB i 4 m := by
  obtain ⟨v, m1, m3, hC, low, g, Z⟩ := P
  refine ⟨m3, Z, fun t => ⟨t + 7, by omega, ?_⟩⟩
  rw [q365_4]
  rw [hC, kI_r]
  rw [g, kI_r, if_pos rfl]
theorem trn5 (hm : ∀ q, q < x → m.1 q = m0.1 q) (hl : l0 < x) (P : PAIRD e x m0 C S0 YB 92 201 [] m) : TRN e x l0 m0 C S0 YB i 5 m := by
  obtain ⟨v, m1, m3, hC, low, g, Z⟩ := P
  refine ⟨m3, Z, fun t => ⟨t + 7, by omega, ?_⟩⟩
  rw [q365_5]
  rw [hC, kI_r]
  rw [g, kI_r, if_pos rfl]
theorem trn6 (he : e.1 ≤ x) (hm : ∀ q, q < x → m.1 q = m0.1 q) (hl : l0 < x) (P : PAIR e x m0 C S0 YB 93 232 [] (ks1 1) m) : TRN e x l0 m0 C S0 YB i 6 m := by
  rcases P with ⟨v, m1, hC, oL, hR⟩ | ⟨E, m1, B, m3, k1, k3, hC, low, g, T, Z⟩
  · obtain ⟨m2, s1, s2, s3, s4, s5⟩ := sL_o (e := e) (by omega) oL (v := v.toInt64)
    obtain ⟨low2, m3, g, T, q, Z⟩ := hR m2 s3 s4 s5
    have q' := (aL_m (k := 1) (i := Int32.ofNat 0) q).trans s2
    refine ⟨m3, Z, fun t => ⟨t + 5, by omega, ?_⟩⟩
    rw [q365_6]
    rw [w307_0 hC s1, kI_r]
    rw [g, kI_r, t164 T, kI_r, if_pos rfl, q365_68, if_pos rfl, q', bd_s]
    rw [if_pos (lg_e _), q365_69]
  · have hE := ks1_c k1
    subst hE
    have T' : THR x 1 m3 := T
    refine ⟨m3, Z, fun t => ⟨t + 5, by omega, ?_⟩⟩
    rw [q365_6]
    rw [w307_e1 hC, kI_r]
    rw [g, kI_r, t164 T', kI_r, if_pos rfl, q365_68, if_neg (by decide +kernel), q365_69]
theorem trn7 (he : e.1 ≤ x) (hm : ∀ q, q < x → m.1 q = m0.1 q) (hl : l0 < x) (P : PAIR e x m0 C S0 YB 94 233 [] (ks1 1) m) : TRN e x l0 m0 C S0 YB i 7 m := by
  rcases P with ⟨v, m1, hC, oL, hR⟩ | ⟨E, m1, B, m3, k1, k3, hC, low, g, T, Z⟩
  · obtain ⟨m2, s1, s2, s3, s4, s5⟩ := sL_o (e := e) (by omega) oL (v := v.toInt64)
    obtain ⟨low2, m3, g, T, q, Z⟩ := hR m2 s3 s4 s5
    have q' := (aL_m (k := 1) (i := Int32.ofNat 0) q).trans s2
    refine ⟨m3, Z, fun t => ⟨t + 5, by omega, ?_⟩⟩
    rw [q365_7]
    rw [w308_0 hC s1, kI_r]
    rw [g, kI_r, t164 T, kI_r, if_pos rfl, q365_70, if_pos rfl, q', bd_s]
    rw [if_pos (lg_e _), q365_71]
  · have hE := ks1_c k1
    subst hE
    have T' : THR x 1 m3 := T
    refine ⟨m3, Z, fun t => ⟨t + 5, by omega, ?_⟩⟩
    rw [q365_7]
    rw [w308_e1 hC, kI_r]
    rw [g, kI_r, t164 T', kI_r, if_pos rfl, q365_70, if_neg (by decide +kernel), q365_71]
theorem trn8 (he : e.1 ≤ x) (hm : ∀ q, q < x → m.1 q = m0.1 q) (hl : l0 < x) (P : PAIR e x m0 C S0 YB 95 234 [] (ks1 1) m) : TRN e x l0 m0 C S0 YB i 8 m := by
  rcases P with ⟨v, m1, hC, oL, hR⟩ | ⟨E, m1, B, m3, k1, k3, hC, low, g, T, Z⟩
  · obtain ⟨m2, s1, s2, s3, s4, s5⟩ := sL_o (e := e) (by omega) oL (v := v.toInt64)
    obtain ⟨low2, m3, g, T, q, Z⟩ := hR m2 s3 s4 s5
    have q' := (aL_m (k := 1) (i := Int32.ofNat 0) q).trans s2
    refine ⟨m3, Z, fun t => ⟨t + 5, by omega, ?_⟩⟩
    rw [q365_8]
    rw [w309_0 hC s1, kI_r]
    rw [g, kI_r, t164 T, kI_r, if_pos rfl, q365_72, if_pos rfl, q', bd_s]
    rw [if_pos (lg_e _), q365_73]
  · have hE := ks1_c k1
    subst hE
    have T' : THR x 1 m3 := T
    refine ⟨m3, Z, fun t => ⟨t + 5, by omega, ?_⟩⟩
    rw [q365_8]
    rw [w309_e1 hC, kI_r]
    rw [g, kI_r, t164 T', kI_r, if_pos rfl, q365_72, if_neg (by decide +kernel), q365_73]
theorem trn9 (he : e.1 ≤ x) (hm : ∀ q, q < x → m.1 q = m0.1 q) (hl : l0 < x) (P : PAIR e x m0 C S0 YB 96 235 [] (ks1 1) m) : TRN e x l0 m0 C S0 YB i 9 m := by
  rcases P with ⟨v, m1, hC, oL, hR⟩ | ⟨E, m1, B, m3, k1, k3, hC, low, g, T, Z⟩
  · obtain ⟨m2, s1, s2, s3, s4, s5⟩ := sL_o (e := e) (by omega) oL (v := v.toInt64)
    obtain ⟨low2, m3, g, T, q, Z⟩ := hR m2 s3 s4 s5
    have q' := (aL_m (k := 1) (i := Int32.ofNat 0) q).trans s2
    refine ⟨m3, Z, fun t => ⟨t + 5, by omega, ?_⟩⟩
    rw [q365_9]
    rw [w310_0 hC s1, kI_r]
    rw [g, kI_r, t164 T, kI_r, if_pos rfl, q365_74, if_pos rfl, q', bd_s]
    rw [if_pos (lg_e _), q365_75]
  · have hE := ks1_c k1
    subst hE
    have T' : THR x 1 m3 := T
    refine ⟨m3, Z, fun t => ⟨t + 5, by omega, ?_⟩⟩
    rw [q365_9]
    rw [w310_e1 hC, kI_r]
    rw [g, kI_r, t164 T', kI_r, if_pos rfl, q365_74, if_neg (by decide +kernel), q365_75]
theorem trn10 (he : e.1 ≤ x) (hm : ∀ q, q < x → m.1 q = m0.1 q) (hl : l0 < x) (P : PAIR e x m0 C S0 YB 97 236 [] (ks1 1) m) : TRN e x l0 m0 C S0 YB i 10 m := by
  rcases P with ⟨v, m1, hC, oL, hR⟩ | ⟨E, m1, B, m3, k1, k3, hC, low, g, T, Z⟩
  · obtain ⟨m2, s1, s2, s3, s4, s5⟩ := sL_o (e := e) (by omega) oL (v := v.toInt64)
    obtain ⟨low2, m3, g, T, q, Z⟩ := hR m2 s3 s4 s5
    have q' := (aL_m (k := 1) (i := Int32.ofNat 0) q).trans s2
    refine ⟨m3, Z, fun t => ⟨t + 5, by omega, ?_⟩⟩
    rw [q365_10]
    rw [w311_0 hC s1, kI_r]
    rw [g, kI_r, t164 T, kI_r, if_pos rfl, q365_76, if_pos rfl, q', bd_s]
    rw [if_pos (lg_e _), q365_77]
  · have hE := ks1_c k1
    subst hE
    have T' : THR x 1 m3 := T
    refine ⟨m3, Z, fun t => ⟨t + 5, by omega, ?_⟩⟩
    rw [q365_10]
    rw [w311_e1 hC, kI_r]
    rw [g, kI_r, t164 T', kI_r, if_pos rfl, q365_76, if_neg (by decide +kernel), q365_77]
theorem trn11 (he : e.1 ≤ x) (hm : ∀ q, q < x → m.1 q = m0.1 q) (hl : l0 < x) (P : PAIR e x m0 C S0 YB 98 237 [] (ks1 1) m) : TRN e x l0 m0 C S0 YB i 11 m := by
  rcases P with ⟨v, m1, hC, oL, hR⟩ | ⟨E, m1, B, m3, k1, k3, hC, low, g, T, Z⟩
  · obtain ⟨m2, s1, s2, s3, s4, s5⟩ := sL_o (e := e) (by omega) oL (v := v.toInt64)
    obtain ⟨low2, m3, g, T, q, Z⟩ := hR m2 s3 s4 s5
    have q' := (aL_m (k := 1) (i := Int32.ofNat 0) q).trans s2
    refine ⟨m3, Z, fun t => ⟨t + 5, by omega, ?_⟩⟩
    rw [q365_11]
    rw [w312_0 hC s1, kI_r]
    rw [g, kI_r, t164 T, kI_r, if_pos rfl, q365_78, if_pos rfl, q', bd_s]
    rw [if_pos (lg_e _), q365_79]
  · have hE := ks1_c k1
    subst hE
    have T' : THR x 1 m3 := T
    refine ⟨m3, Z, fun t => ⟨t + 5, by omega, ?_⟩⟩
    rw [q365_11]
    rw [w312_e1 hC, kI_r]
    rw [g, kI_r, t164 T', kI_r, if_pos rfl, q365_78, if_neg (by decide +kernel), q365_79]
theorem trn12 (he : e.1 ≤ x) (hm : ∀ q, q < x → m.1 q = m0.1 q) (hl : l0 < x) (P : PAIR e x m0 C S0 YB 99 238 [] (ks1 1) m) : TRN e x l0 m0 C S0 YB i 12 m := by
  rcases P with ⟨v, m1, hC, oL, hR⟩ | ⟨E, m1, B, m3, k1, k3, hC, low, g, T, Z⟩
  · obtain ⟨m2, s1, s2, s3, s4, s5⟩ := sL_o (e := e) (by omega) oL (v := v.toInt64)
    obtain ⟨low2, m3, g, T, q, Z⟩ := hR m2 s3 s4 s5
    have q' := (aL_m (k := 1) (i := Int32.ofNat 0) q).trans s2
    refine ⟨m3, Z, fun t => ⟨t + 5, by omega, ?_⟩⟩
    rw [q365_12]
    rw [w313_0 hC s1, kI_r]
    rw [g, kI_r, t164 T, kI_r, if_pos rfl, q365_80, if_pos rfl, q', bd_s]
    rw [if_pos (lg_e _), q365_81]
  · have hE := ks1_c k1
    subst hE
    have T' : THR x 1 m3 := T
    refine ⟨m3, Z, fun t => ⟨t + 5, by omega, ?_⟩⟩
    rw [q365_12]
    rw [w313_e1 hC, kI_r]
    rw [g, kI_r, t164 T', kI_r, if_pos rfl, q365_80, if_neg (by decide +kernel), q365_81]
theorem trn13 (he : e.1 ≤ x) (hm : ∀ q, q < x → m.1 q = m0.1 q) (hl : l0 < x) (P : PAIR e x m0 C S0 YB 100 239 [] (ks1 1) m) : TRN e x l0 m0 C S0 YB i 13 m := by
  rcases P with ⟨v, m1, hC, oL, hR⟩ | ⟨E, m1, B, m3, k1, k3, hC, low, g, T, Z⟩
  · obtain ⟨m2, s1, s2, s3, s4, s5⟩ := sL_o (e := e) (by omega) oL (v := v.toInt64)
    obtain ⟨low2, m3, g, T, q, Z⟩ := hR m2 s3 s4 s5
    have q' := (aL_m (k := 1) (i := Int32.ofNat 0) q).trans s2
    refine ⟨m3, Z, fun t => ⟨t + 5, by omega, ?_⟩⟩
    rw [q365_13]
    rw [w314_0 hC s1, kI_r]
    rw [g, kI_r, t164 T, kI_r, if_pos rfl, q365_82, if_pos rfl, q', bd_s]
    rw [if_pos (lg_e _), q365_83]
  · have hE := ks1_c k1
    subst hE
    have T' : THR x 1 m3 := T
    refine ⟨m3, Z, fun t => ⟨t + 5, by omega, ?_⟩⟩
    rw [q365_13]
    rw [w314_e1 hC, kI_r]
    rw [g, kI_r, t164 T', kI_r, if_pos rfl, q365_82, if_neg (by decide +kernel), q365_83]
theorem trn14 (he : e.1 ≤ x) (hm : ∀ q, q < x → m.1 q = m0.1 q) (hl : l0 < x) {y1 y2 : Int32} (a1 : aI m0 0 l0 (i + Int32.ofNat 1) = some y1) (a2 : aI m0 0 l0 (i + Int32.ofNat 2) = some y2) (P : PAIR e x m0 C S0 YB 101 241 [.int y1, .int y2] (ks2 1 2) m) : TRN e x l0 m0 C S0 YB i 14 m := by
  have r1 : ∀ m' : dMem, (∀ q, q < x → m'.1 q = m0.1 q) → aI m' 0 l0 (i + Int32.ofNat 1) = some y1 := fun m' h => (aI_m (h l0 hl)).trans a1
  have r2 : ∀ m' : dMem, (∀ q, q < x → m'.1 q = m0.1 q) → aI m' 0 l0 (i + Int32.ofNat 2) = some y2 := fun m' h => (aI_m (h l0 hl)).trans a2
  rcases P with ⟨v, m1, hC, oL, hR⟩ | ⟨E, m1, B, m3, k1, k3, hC, low, g, T, Z⟩
  · obtain ⟨m2, s1, s2, s3, s4, s5⟩ := sL_o (e := e) (by omega) oL (v := v.toInt64)
    obtain ⟨low2, m3, g, T, q, Z⟩ := hR m2 s3 s4 s5
    have q' := (aL_m (k := 1) (i := Int32.ofNat 0) q).trans s2
    refine ⟨m3, Z, fun t => ⟨t + 5, by omega, ?_⟩⟩
    rw [q365_14]
    rw [r1 m hm]
    (try simp only [bd_s])
    rw [r2 m hm]
    (try simp only [bd_s])
    rw [w315_0 hC s1, kI_r]
    rw [r1 m2 low2]
    (try simp only [bd_s])
    rw [r2 m2 low2]
    (try simp only [bd_s])
    rw [g, kI_r, t164 T, kI_r, if_pos rfl, q365_84, if_pos rfl, q', bd_s]
    rw [if_pos (lg_e _), q365_85]
  · rcases ks2_c k1 with rfl | rfl
    · have T' : THR x 1 m3 := T
      refine ⟨m3, Z, fun t => ⟨t + 5, by omega, ?_⟩⟩
      rw [q365_14]
      rw [r1 m hm]
      (try simp only [bd_s])
      rw [r2 m hm]
      (try simp only [bd_s])
      rw [w315_e1 hC, kI_r]
      rw [r1 m1 low]
      (try simp only [bd_s])
      rw [r2 m1 low]
      (try simp only [bd_s])
      rw [g, kI_r, t164 T', kI_r, if_pos rfl, q365_84, if_neg (by decide +kernel), q365_85]
    · have T' : THR x 2 m3 := T
      refine ⟨m3, Z, fun t => ⟨t + 5, by omega, ?_⟩⟩
      rw [q365_14]
      rw [r1 m hm]
      (try simp only [bd_s])
      rw [r2 m hm]
      (try simp only [bd_s])
      rw [w315_e2 hC, kI_r]
      rw [r1 m1 low]
      (try simp only [bd_s])
      rw [r2 m1 low]
      (try simp only [bd_s])
      rw [g, kI_r, t164 T', kI_r, if_pos rfl, q365_84, if_neg (by decide +kernel), q365_85]
theorem trn15 (he : e.1 ≤ x) (hm : ∀ q, q < x → m.1 q = m0.1 q) (hl : l0 < x) (P : PAIR e x m0 C S0 YB 102 243 [] (ks1 1) m) : TRN e x l0 m0 C S0 YB i 15 m := by
  rcases P with ⟨v, m1, hC, oL, hR⟩ | ⟨E, m1, B, m3, k1, k3, hC, low, g, T, Z⟩
  · obtain ⟨m2, s1, s2, s3, s4, s5⟩ := sL_o (e := e) (by omega) oL (v := v.toInt64)
    obtain ⟨low2, m3, g, T, q, Z⟩ := hR m2 s3 s4 s5
    have q' := (aL_m (k := 1) (i := Int32.ofNat 0) q).trans s2
    refine ⟨m3, Z, fun t => ⟨t + 5, by omega, ?_⟩⟩
    rw [q365_15]
    rw [w316_0 hC s1, kI_r]
    rw [g, kI_r, t164 T, kI_r, if_pos rfl, q365_86, if_pos rfl, q', bd_s]
    rw [if_pos (lg_e _), q365_87]
  · have hE := ks1_c k1
    subst hE
    have T' : THR x 1 m3 := T
    refine ⟨m3, Z, fun t => ⟨t + 5, by omega, ?_⟩⟩
    rw [q365_15]
    rw [w316_e1 hC, kI_r]
    rw [g, kI_r, t164 T', kI_r, if_pos rfl, q365_86, if_neg (by decide +kernel), q365_87]
theorem trn16 (he : e.1 ≤ x) (hm : ∀ q, q < x → m.1 q = m0.1 q) (hl : l0 < x) (P : PAIR e x m0 C S0 YB 103 245 [] (ks1 1) m) : TRN e x l0 m0 C S0 YB i 16 m := by
  rcases P with ⟨v, m1, hC, oL, hR⟩ | ⟨E, m1, B, m3, k1, k3, hC, low, g, T, Z⟩
  · obtain ⟨m2, s1, s2, s3, s4, s5⟩ := sL_o (e := e) (by omega) oL (v := v.toInt64)
    obtain ⟨low2, m3, g, T, q, Z⟩ := hR m2 s3 s4 s5
    have q' := (aL_m (k := 1) (i := Int32.ofNat 0) q).trans s2
    refine ⟨m3, Z, fun t => ⟨t + 5, by omega, ?_⟩⟩
    rw [q365_16]
    rw [w317_0 hC s1, kI_r]
    rw [g, kI_r, t164 T, kI_r, if_pos rfl, q365_88, if_pos rfl, q', bd_s]
    rw [if_pos (lg_e _), q365_89]
  · have hE := ks1_c k1
    subst hE
    have T' : THR x 1 m3 := T
    refine ⟨m3, Z, fun t => ⟨t + 5, by omega, ?_⟩⟩
    rw [q365_16]
    rw [w317_e1 hC, kI_r]
    rw [g, kI_r, t164 T', kI_r, if_pos rfl, q365_88, if_neg (by decide +kernel), q365_89]
theorem trn17 (he : e.1 ≤ x) (hm : ∀ q, q < x → m.1 q = m0.1 q) (hl : l0 < x) (P : PAIR e x m0 C S0 YB 104 246 [] (ks1 1) m) : TRN e x l0 m0 C S0 YB i 17 m := by
  rcases P with ⟨v, m1, hC, oL, hR⟩ | ⟨E, m1, B, m3, k1, k3, hC, low, g, T, Z⟩
  · obtain ⟨m2, s1, s2, s3, s4, s5⟩ := sL_o (e := e) (by omega) oL (v := v.toInt64)
    obtain ⟨low2, m3, g, T, q, Z⟩ := hR m2 s3 s4 s5
    have q' := (aL_m (k := 1) (i := Int32.ofNat 0) q).trans s2
    refine ⟨m3, Z, fun t => ⟨t + 5, by omega, ?_⟩⟩
    rw [q365_17]
    rw [w318_0 hC s1, kI_r]
    rw [g, kI_r, t164 T, kI_r, if_pos rfl, q365_90, if_pos rfl, q', bd_s]
    rw [if_pos (lg_e _), q365_91]
  · have hE := ks1_c k1
    subst hE
    have T' : THR x 1 m3 := T
    refine ⟨m3, Z, fun t => ⟨t + 5, by omega, ?_⟩⟩
    rw [q365_17]
    rw [w318_e1 hC, kI_r]
    rw [g, kI_r, t164 T', kI_r, if_pos rfl, q365_90, if_neg (by decide +kernel), q365_91]
theorem trn18 (he : e.1 ≤ x) (hm : ∀ q, q < x → m.1 q = m0.1 q) (hl : l0 < x) {y1 y2 : Int32} (a1 : aI m0 0 l0 (i + Int32.ofNat 1) = some y1) (a2 : aI m0 0 l0 (i + Int32.ofNat 2) = some y2) (P : PAIR e x m0 C S0 YB 105 249 [.int y1, .int y2] (ks2 1 2) m) : TRN e x l0 m0 C S0 YB i 18 m := by
  have r1 : ∀ m' : dMem, (∀ q, q < x → m'.1 q = m0.1 q) → aI m' 0 l0 (i + Int32.ofNat 1) = some y1 := fun m' h => (aI_m (h l0 hl)).trans a1
  have r2 : ∀ m' : dMem, (∀ q, q < x → m'.1 q = m0.1 q) → aI m' 0 l0 (i + Int32.ofNat 2) = some y2 := fun m' h => (aI_m (h l0 hl)).trans a2
  rcases P with ⟨v, m1, hC, oL, hR⟩ | ⟨E, m1, B, m3, k1, k3, hC, low, g, T, Z⟩
  · obtain ⟨m2, s1, s2, s3, s4, s5⟩ := sL_o (e := e) (by omega) oL (v := v.toInt64)
    obtain ⟨low2, m3, g, T, q, Z⟩ := hR m2 s3 s4 s5
    have q' := (aL_m (k := 1) (i := Int32.ofNat 0) q).trans s2
    refine ⟨m3, Z, fun t => ⟨t + 5, by omega, ?_⟩⟩
    rw [q365_18]
    rw [r1 m hm]
    (try simp only [bd_s])
    rw [r2 m hm]
    (try simp only [bd_s])
    rw [w319_0 hC s1, kI_r]
    rw [r1 m2 low2]
    (try simp only [bd_s])
    rw [r2 m2 low2]
    (try simp only [bd_s])
    rw [g, kI_r, t164 T, kI_r, if_pos rfl, q365_92, if_pos rfl, q', bd_s]
    rw [if_pos (lg_e _), q365_93]
  · rcases ks2_c k1 with rfl | rfl
    · have T' : THR x 1 m3 := T
      refine ⟨m3, Z, fun t => ⟨t + 5, by omega, ?_⟩⟩
      rw [q365_18]
      rw [r1 m hm]
      (try simp only [bd_s])
      rw [r2 m hm]
      (try simp only [bd_s])
      rw [w319_e1 hC, kI_r]
      rw [r1 m1 low]
      (try simp only [bd_s])
      rw [r2 m1 low]
      (try simp only [bd_s])
      rw [g, kI_r, t164 T', kI_r, if_pos rfl, q365_92, if_neg (by decide +kernel), q365_93]
    · have T' : THR x 2 m3 := T
      refine ⟨m3, Z, fun t => ⟨t + 5, by omega, ?_⟩⟩
      rw [q365_18]
      rw [r1 m hm]
      (try simp only [bd_s])
      rw [r2 m hm]
      (try simp only [bd_s])
      rw [w319_e2 hC, kI_r]
      rw [r1 m1 low]
      (try simp only [bd_s])
      rw [r2 m1 low]
      (try simp only [bd_s])
      rw [g, kI_r, t164 T', kI_r, if_pos rfl, q365_92, if_neg (by decide +kernel), q365_93]
theorem trn19 (he : e.1 ≤ x) (hm : ∀ q, q < x → m.1 q = m0.1 q) (hl : l0 < x) {y1 : Int32} (a1 : aI m0 0 l0 (i + Int32.ofNat 1) = some y1) (P : PAIR e x m0 C S0 YB 106 250 [.int y1] (ks2 1 2) m) : TRN e x l0 m0 C S0 YB i 19 m := by
  have r1 : ∀ m' : dMem, (∀ q, q < x → m'.1 q = m0.1 q) → aI m' 0 l0 (i + Int32.ofNat 1) = some y1 := fun m' h => (aI_m (h l0 hl)).trans a1
  rcases P with ⟨v, m1, hC, oL, hR⟩ | ⟨E, m1, B, m3, k1, k3, hC, low, g, T, Z⟩
  · obtain ⟨m2, s1, s2, s3, s4, s5⟩ := sL_o (e := e) (by omega) oL (v := v.toInt64)
    obtain ⟨low2, m3, g, T, q, Z⟩ := hR m2 s3 s4 s5
    have q' := (aL_m (k := 1) (i := Int32.ofNat 0) q).trans s2
    refine ⟨m3, Z, fun t => ⟨t + 5, by omega, ?_⟩⟩
    rw [q365_19]
    rw [r1 m hm]
    (try simp only [bd_s])
    rw [w320_0 hC s1, kI_r]
    rw [r1 m2 low2]
    (try simp only [bd_s])
    rw [g, kI_r, t164 T, kI_r, if_pos rfl, q365_94, if_pos rfl, q', bd_s]
    rw [if_pos (lg_e _), q365_95]
  · rcases ks2_c k1 with rfl | rfl
    · have T' : THR x 1 m3 := T
      refine ⟨m3, Z, fun t => ⟨t + 5, by omega, ?_⟩⟩
      rw [q365_19]
      rw [r1 m hm]
      (try simp only [bd_s])
      rw [w320_e1 hC, kI_r]
      rw [r1 m1 low]
      (try simp only [bd_s])
      rw [g, kI_r, t164 T', kI_r, if_pos rfl, q365_94, if_neg (by decide +kernel), q365_95]
    · have T' : THR x 2 m3 := T
      refine ⟨m3, Z, fun t => ⟨t + 5, by omega, ?_⟩⟩
      rw [q365_19]
      rw [r1 m hm]
      (try simp only [bd_s])
      rw [w320_e2 hC, kI_r]
      rw [r1 m1 low]
      (try simp only [bd_s])
      rw [g, kI_r, t164 T', kI_r, if_pos rfl, q365_94, if_neg (by decide +kernel), q365_95]
theorem trn20 (he : e.1 ≤ x) (hm : ∀ q, q < x → m.1 q = m0.1 q) (hl : l0 < x) {y1 : Int32} (a1 : aI m0 0 l0 (i + Int32.ofNat 1) = some y1) (P : PAIR e x m0 C S0 YB 107 251 [.int y1] (ks2 1 2) m) : TRN e x l0 m0 C S0 YB i 20 m := by
  have r1 : ∀ m' : dMem, (∀ q, q < x → m'.1 q = m0.1 q) → aI m' 0 l0 (i + Int32.ofNat 1) = some y1 := fun m' h => (aI_m (h l0 hl)).trans a1
  rcases P with ⟨v, m1, hC, oL, hR⟩ | ⟨E, m1, B, m3, k1, k3, hC, low, g, T, Z⟩
  · obtain ⟨m2, s1, s2, s3, s4, s5⟩ := sL_o (e := e) (by omega) oL (v := v.toInt64)
    obtain ⟨low2, m3, g, T, q, Z⟩ := hR m2 s3 s4 s5
    have q' := (aL_m (k := 1) (i := Int32.ofNat 0) q).trans s2
    refine ⟨m3, Z, fun t => ⟨t + 5, by omega, ?_⟩⟩
    rw [q365_20]
    rw [r1 m hm]
    (try simp only [bd_s])
    rw [w321_0 hC s1, kI_r]
    rw [r1 m2 low2]
    (try simp only [bd_s])
    rw [g, kI_r, t164 T, kI_r, if_pos rfl, q365_96, if_pos rfl, q', bd_s]
    rw [if_pos (lg_e _), q365_97]
  · rcases ks2_c k1 with rfl | rfl
    · have T' : THR x 1 m3 := T
      refine ⟨m3, Z, fun t => ⟨t + 5, by omega, ?_⟩⟩
      rw [q365_20]
      rw [r1 m hm]
      (try simp only [bd_s])
      rw [w321_e1 hC, kI_r]
      rw [r1 m1 low]
      (try simp only [bd_s])
      rw [g, kI_r, t164 T', kI_r, if_pos rfl, q365_96, if_neg (by decide +kernel), q365_97]
    · have T' : THR x 2 m3 := T
      refine ⟨m3, Z, fun t => ⟨t + 5, by omega, ?_⟩⟩
      rw [q365_20]
      rw [r1 m hm]
      (try simp only [bd_s])
      rw [w321_e2 hC, kI_r]
      rw [r1 m1 low]
      (try simp only [bd_s])
      rw [g, kI_r, t164 T', kI_r, if_pos rfl, q365_96, if_neg (by decide +kernel), q365_97]
theorem trn21 (he : e.1 ≤ x) (hm : ∀ q, q < x → m.1 q = m0.1 q) (hl : l0 < x) {y1 : Int32} (a1 : aI m0 0 l0 (i + Int32.ofNat 1) = some y1) (P : PAIR e x m0 C S0 YB 108 252 [.int y1] (ks2 1 2) m) : TRN e x l0 m0 C S0 YB i 21 m := by
  have r1 : ∀ m' : dMem, (∀ q, q < x → m'.1 q = m0.1 q) → aI m' 0 l0 (i + Int32.ofNat 1) = some y1 := fun m' h => (aI_m (h l0 hl)).trans a1
  rcases P with ⟨v, m1, hC, oL, hR⟩ | ⟨E, m1, B, m3, k1, k3, hC, low, g, T, Z⟩
  · obtain ⟨m2, s1, s2, s3, s4, s5⟩ := sL_o (e := e) (by omega) oL (v := (if v = Int32.ofNat 0 then 0 else 1))
    obtain ⟨low2, m3, g, T, q, Z⟩ := hR m2 s3 s4 s5
    have q' := (aL_m (k := 1) (i := Int32.ofNat 0) q).trans s2
    refine ⟨m3, Z, fun t => ?_⟩
    rw [q365_21]
    rw [r1 m hm]
    (try simp only [bd_s])
    rw [w322_0 hC s1, kI_r]
    rw [r1 m2 low2]
    (try simp only [bd_s])
    rw [g, kI_r, t164 T, kI_r, if_pos rfl, q365_98, if_pos rfl, q', bd_s]
    by_cases qv : v = Int32.ofNat 0
    · rw [if_pos qv, if_pos qv, q365_99, q365_100, if_pos (lg_e _), q365_101]
      exact ⟨_, (show t ≤ t + 3 by omega), rfl⟩
    · rw [if_neg qv, if_neg qv, q365_100, if_pos (lg_e _), q365_101]
      exact ⟨_, (show t ≤ t + 4 by omega), rfl⟩
  · rcases ks2_c k1 with rfl | rfl
    · have T' : THR x 1 m3 := T
      refine ⟨m3, Z, fun t => ⟨t + 5, by omega, ?_⟩⟩
      rw [q365_21]
      rw [r1 m hm]
      (try simp only [bd_s])
      rw [w322_e1 hC, kI_r]
      rw [r1 m1 low]
      (try simp only [bd_s])
      rw [g, kI_r, t164 T', kI_r, if_pos rfl, q365_98, if_neg (by decide +kernel), q365_101]
    · have T' : THR x 2 m3 := T
      refine ⟨m3, Z, fun t => ⟨t + 5, by omega, ?_⟩⟩
      rw [q365_21]
      rw [r1 m hm]
      (try simp only [bd_s])
      rw [w322_e2 hC, kI_r]
      rw [r1 m1 low]
      (try simp only [bd_s])
      rw [g, kI_r, t164 T', kI_r, if_pos rfl, q365_98, if_neg (by decide +kernel), q365_101]
theorem trn22 (he : e.1 ≤ x) (hm : ∀ q, q < x → m.1 q = m0.1 q) (hl : l0 < x) {y1 : Int32} (a1 : aI m0 0 l0 (i + Int32.ofNat 1) = some y1) (P : PAIR e x m0 C S0 YB 109 254 [.int y1] (ks2 1 2) m) : TRN e x l0 m0 C S0 YB i 22 m := by
  have r1 : ∀ m' : dMem, (∀ q, q < x → m'.1 q = m0.1 q) → aI m' 0 l0 (i + Int32.ofNat 1) = some y1 := fun m' h => (aI_m (h l0 hl)).trans a1
  rcases P with ⟨v, m1, hC, oL, hR⟩ | ⟨E, m1, B, m3, k1, k3, hC, low, g, T, Z⟩
  · obtain ⟨m2, s1, s2, s3, s4, s5⟩ := sL_o (e := e) (by omega) oL (v := v.toInt64)
    obtain ⟨low2, m3, g, T, q, Z⟩ := hR m2 s3 s4 s5
    have q' := (aL_m (k := 1) (i := Int32.ofNat 0) q).trans s2
    refine ⟨m3, Z, fun t => ⟨t + 5, by omega, ?_⟩⟩
    rw [q365_22]
    rw [r1 m hm]
    (try simp only [bd_s])
    rw [w323_0 hC s1, kI_r]
    rw [r1 m2 low2]
    (try simp only [bd_s])
    rw [g, kI_r, t164 T, kI_r, if_pos rfl, q365_102, if_pos rfl, q', bd_s]
    rw [if_pos (lg_e _), q365_103]
  · rcases ks2_c k1 with rfl | rfl
    · have T' : THR x 1 m3 := T
      refine ⟨m3, Z, fun t => ⟨t + 5, by omega, ?_⟩⟩
      rw [q365_22]
      rw [r1 m hm]
      (try simp only [bd_s])
      rw [w323_e1 hC, kI_r]
      rw [r1 m1 low]
      (try simp only [bd_s])
      rw [g, kI_r, t164 T', kI_r, if_pos rfl, q365_102, if_neg (by decide +kernel), q365_103]
    · have T' : THR x 2 m3 := T
      refine ⟨m3, Z, fun t => ⟨t + 5, by omega, ?_⟩⟩
      rw [q365_22]
      rw [r1 m hm]
      (try simp only [bd_s])
      rw [w323_e2 hC, kI_r]
      rw [r1 m1 low]
      (try simp only [bd_s])
      rw [g, kI_r, t164 T', kI_r, if_pos rfl, q365_102, if_neg (by decide +kernel), q365_103]
theorem trn23 (he : e.1 ≤ x) (hm : ∀ q, q < x → m.1 q = m0.1 q) (hl : l0 < x) {y1 : Int32} (a1 : aI m0 0 l0 (i + Int32.ofNat 1) = some y1) (P : PAIR e x m0 C S0 YB 110 255 [.int y1] (ks2 1 2) m) : TRN e x l0 m0 C S0 YB i 23 m := by
  have r1 : ∀ m' : dMem, (∀ q, q < x → m'.1 q = m0.1 q) → aI m' 0 l0 (i + Int32.ofNat 1) = some y1 := fun m' h => (aI_m (h l0 hl)).trans a1
  rcases P with ⟨v, m1, hC, oL, hR⟩ | ⟨E, m1, B, m3, k1, k3, hC, low, g, T, Z⟩
  · obtain ⟨m2, s1, s2, s3, s4, s5⟩ := sL_o (e := e) (by omega) oL (v := v.toInt64)
    obtain ⟨low2, m3, g, T, q, Z⟩ := hR m2 s3 s4 s5
    have q' := (aL_m (k := 1) (i := Int32.ofNat 0) q).trans s2
    refine ⟨m3, Z, fun t => ⟨t + 5, by omega, ?_⟩⟩
    rw [q365_23]
    rw [r1 m hm]
    (try simp only [bd_s])
    rw [w324_0 hC s1, kI_r]
    rw [r1 m2 low2]
    (try simp only [bd_s])
    rw [g, kI_r, t164 T, kI_r, if_pos rfl, q365_104, if_pos rfl, q', bd_s]
    rw [if_pos (lg_e _), q365_105]
  · rcases ks2_c k1 with rfl | rfl
    · have T' : THR x 1 m3 := T
      refine ⟨m3, Z, fun t => ⟨t + 5, by omega, ?_⟩⟩
      rw [q365_23]
      rw [r1 m hm]
      (try simp only [bd_s])
      rw [w324_e1 hC, kI_r]
      rw [r1 m1 low]
      (try simp only [bd_s])
      rw [g, kI_r, t164 T', kI_r, if_pos rfl, q365_104, if_neg (by decide +kernel), q365_105]
    · have T' : THR x 2 m3 := T
      refine ⟨m3, Z, fun t => ⟨t + 5, by omega, ?_⟩⟩
      rw [q365_23]
      rw [r1 m hm]
      (try simp only [bd_s])
      rw [w324_e2 hC, kI_r]
      rw [r1 m1 low]
      (try simp only [bd_s])
      rw [g, kI_r, t164 T', kI_r, if_pos rfl, q365_104, if_neg (by decide +kernel), q365_105]
theorem trn24 (he : e.1 ≤ x) (hm : ∀ q, q < x → m.1 q = m0.1 q) (hl : l0 < x) {y1 : Int32} (a1 : aI m0 0 l0 (i + Int32.ofNat 1) = some y1) (P : PAIR e x m0 C S0 YB 111 256 [.int y1] (ks2 1 2) m) : TRN e x l0 m0 C S0 YB i 24 m := by
  have r1 : ∀ m' : dMem, (∀ q, q < x → m'.1 q = m0.1 q) → aI m' 0 l0 (i + Int32.ofNat 1) = some y1 := fun m' h => (aI_m (h l0 hl)).trans a1
  rcases P with ⟨v, m1, hC, oL, hR⟩ | ⟨E, m1, B, m3, k1, k3, hC, low, g, T, Z⟩
  · obtain ⟨m2, s1, s2, s3, s4, s5⟩ := sL_o (e := e) (by omega) oL (v := v.toInt64)
    obtain ⟨low2, m3, g, T, q, Z⟩ := hR m2 s3 s4 s5
    have q' := (aL_m (k := 1) (i := Int32.ofNat 0) q).trans s2
    refine ⟨m3, Z, fun t => ⟨t + 5, by omega, ?_⟩⟩
    rw [q365_24]
    rw [r1 m hm]
    (try simp only [bd_s])
    rw [w325_0 hC s1, kI_r]
    rw [r1 m2 low2]
    (try simp only [bd_s])
    rw [g, kI_r, t164 T, kI_r, if_pos rfl, q365_106, if_pos rfl, q', bd_s]
    rw [if_pos (lg_e _), q365_107]
  · rcases ks2_c k1 with rfl | rfl
    · have T' : THR x 1 m3 := T
      refine ⟨m3, Z, fun t => ⟨t + 5, by omega, ?_⟩⟩
      rw [q365_24]
      rw [r1 m hm]
      (try simp only [bd_s])
      rw [w325_e1 hC, kI_r]
      rw [r1 m1 low]
      (try simp only [bd_s])
      rw [g, kI_r, t164 T', kI_r, if_pos rfl, q365_106, if_neg (by decide +kernel), q365_107]
    · have T' : THR x 2 m3 := T
      refine ⟨m3, Z, fun t => ⟨t + 5, by omega, ?_⟩⟩
      rw [q365_24]
      rw [r1 m hm]
      (try simp only [bd_s])
      rw [w325_e2 hC, kI_r]
      rw [r1 m1 low]
      (try simp only [bd_s])
      rw [g, kI_r, t164 T', kI_r, if_pos rfl, q365_106, if_neg (by decide +kernel), q365_107]
theorem trn25 (he : e.1 ≤ x) (hm : ∀ q, q < x → m.1 q = m0.1 q) (hl : l0 < x) {y1 : Int32} (a1 : aI m0 0 l0 (i + Int32.ofNat 1) = some y1) (P : PAIR e x m0 C S0 YB 112 257 [.int y1] (ks2 1 2) m) : TRN e x l0 m0 C S0 YB i 25 m := by
  have r1 : ∀ m' : dMem, (∀ q, q < x → m'.1 q = m0.1 q) → aI m' 0 l0 (i + Int32.ofNat 1) = some y1 := fun m' h => (aI_m (h l0 hl)).trans a1
  rcases P with ⟨v, m1, hC, oL, hR⟩ | ⟨E, m1, B, m3, k1, k3, hC, low, g, T, Z⟩
  · obtain ⟨m2, s1, s2, s3, s4, s5⟩ := sL_o (e := e) (by omega) oL (v := v.toInt64)
    obtain ⟨low2, m3, g, T, q, Z⟩ := hR m2 s3 s4 s5
    have q' := (aL_m (k := 1) (i := Int32.ofNat 0) q).trans s2
    refine ⟨m3, Z, fun t => ⟨t + 5, by omega, ?_⟩⟩
    rw [q365_25]
    rw [r1 m hm]
    (try simp only [bd_s])
    rw [w326_0 hC s1, kI_r]
    rw [r1 m2 low2]
    (try simp only [bd_s])
    rw [g, kI_r, t164 T, kI_r, if_pos rfl, q365_108, if_pos rfl, q', bd_s]
    rw [if_pos (lg_e _), q365_109]
  · rcases ks2_c k1 with rfl | rfl
    · have T' : THR x 1 m3 := T
      refine ⟨m3, Z, fun t => ⟨t + 5, by omega, ?_⟩⟩
      rw [q365_25]
      rw [r1 m hm]
      (try simp only [bd_s])
      rw [w326_e1 hC, kI_r]
      rw [r1 m1 low]
      (try simp only [bd_s])
      rw [g, kI_r, t164 T', kI_r, if_pos rfl, q365_108, if_neg (by decide +kernel), q365_109]
    · have T' : THR x 2 m3 := T
      refine ⟨m3, Z, fun t => ⟨t + 5, by omega, ?_⟩⟩
      rw [q365_25]
      rw [r1 m hm]
      (try simp only [bd_s])
      rw [w326_e2 hC, kI_r]
      rw [r1 m1 low]
      (try simp only [bd_s])
      rw [g, kI_r, t164 T', kI_r, if_pos rfl, q365_108, if_neg (by decide +kernel), q365_109]
theorem trn26 (he : e.1 ≤ x) (hm : ∀ q, q < x → m.1 q = m0.1 q) (hl : l0 < x) {y1 : Int32} (a1 : aI m0 0 l0 (i + Int32.ofNat 1) = some y1) (P : PAIR e x m0 C S0 YB 113 258 [.int y1] (ks2 1 2) m) : TRN e x l0 m0 C S0 YB i 26 m := by
  have r1 : ∀ m' : dMem, (∀ q, q < x → m'.1 q = m0.1 q) → aI m' 0 l0 (i + Int32.ofNat 1) = some y1 := fun m' h => (aI_m (h l0 hl)).trans a1
  rcases P with ⟨v, m1, hC, oL, hR⟩ | ⟨E, m1, B, m3, k1, k3, hC, low, g, T, Z⟩
  · obtain ⟨m2, s1, s2, s3, s4, s5⟩ := sL_o (e := e) (by omega) oL (v := (if v = Int32.ofNat 0 then 0 else 1))
    obtain ⟨low2, m3, g, T, q, Z⟩ := hR m2 s3 s4 s5
    have q' := (aL_m (k := 1) (i := Int32.ofNat 0) q).trans s2
    refine ⟨m3, Z, fun t => ?_⟩
    rw [q365_26]
    rw [r1 m hm]
    (try simp only [bd_s])
    rw [w327_0 hC s1, kI_r]
    rw [r1 m2 low2]
    (try simp only [bd_s])
    rw [g, kI_r, t164 T, kI_r, if_pos rfl, q365_110, if_pos rfl, q', bd_s]
    by_cases qv : v = Int32.ofNat 0
    · rw [if_pos qv, if_pos qv, q365_111, q365_112, if_pos (lg_e _), q365_113]
      exact ⟨_, (show t ≤ t + 3 by omega), rfl⟩
    · rw [if_neg qv, if_neg qv, q365_112, if_pos (lg_e _), q365_113]
      exact ⟨_, (show t ≤ t + 4 by omega), rfl⟩
  · rcases ks2_c k1 with rfl | rfl
    · have T' : THR x 1 m3 := T
      refine ⟨m3, Z, fun t => ⟨t + 5, by omega, ?_⟩⟩
      rw [q365_26]
      rw [r1 m hm]
      (try simp only [bd_s])
      rw [w327_e1 hC, kI_r]
      rw [r1 m1 low]
      (try simp only [bd_s])
      rw [g, kI_r, t164 T', kI_r, if_pos rfl, q365_110, if_neg (by decide +kernel), q365_113]
    · have T' : THR x 2 m3 := T
      refine ⟨m3, Z, fun t => ⟨t + 5, by omega, ?_⟩⟩
      rw [q365_26]
      rw [r1 m hm]
      (try simp only [bd_s])
      rw [w327_e2 hC, kI_r]
      rw [r1 m1 low]
      (try simp only [bd_s])
      rw [g, kI_r, t164 T', kI_r, if_pos rfl, q365_110, if_neg (by decide +kernel), q365_113]
theorem trn27 (he : e.1 ≤ x) (hm : ∀ q, q < x → m.1 q = m0.1 q) (hl : l0 < x) {y1 : Int32} (a1 : aI m0 0 l0 (i + Int32.ofNat 1) = some y1) (P : PAIR e x m0 C S0 YB 114 259 [.int y1] (ks2 1 2) m) : TRN e x l0 m0 C S0 YB i 27 m := by
  have r1 : ∀ m' : dMem, (∀ q, q < x → m'.1 q = m0.1 q) → aI m' 0 l0 (i + Int32.ofNat 1) = some y1 := fun m' h => (aI_m (h l0 hl)).trans a1
  rcases P with ⟨v, m1, hC, oL, hR⟩ | ⟨E, m1, B, m3, k1, k3, hC, low, g, T, Z⟩
  · obtain ⟨m2, s1, s2, s3, s4, s5⟩ := sL_o (e := e) (by omega) oL (v := (if v = Int32.ofNat 0 then 0 else 1))
    obtain ⟨low2, m3, g, T, q, Z⟩ := hR m2 s3 s4 s5
    have q' := (aL_m (k := 1) (i := Int32.ofNat 0) q).trans s2
    refine ⟨m3, Z, fun t => ?_⟩
    rw [q365_27]
    rw [r1 m hm]
    (try simp only [bd_s])
    rw [w328_0 hC s1, kI_r]
    rw [r1 m2 low2]
    (try simp only [bd_s])
    rw [g, kI_r, t164 T, kI_r, if_pos rfl, q365_114, if_pos rfl, q', bd_s]
    by_cases qv : v = Int32.ofNat 0
    · rw [if_pos qv, if_pos qv, q365_115, q365_116, if_pos (lg_e _), q365_117]
      exact ⟨_, (show t ≤ t + 3 by omega), rfl⟩
    · rw [if_neg qv, if_neg qv, q365_116, if_pos (lg_e _), q365_117]
      exact ⟨_, (show t ≤ t + 4 by omega), rfl⟩
  · rcases ks2_c k1 with rfl | rfl
    · have T' : THR x 1 m3 := T
      refine ⟨m3, Z, fun t => ⟨t + 5, by omega, ?_⟩⟩
      rw [q365_27]
      rw [r1 m hm]
      (try simp only [bd_s])
      rw [w328_e1 hC, kI_r]
      rw [r1 m1 low]
      (try simp only [bd_s])
      rw [g, kI_r, t164 T', kI_r, if_pos rfl, q365_114, if_neg (by decide +kernel), q365_117]
    · have T' : THR x 2 m3 := T
      refine ⟨m3, Z, fun t => ⟨t + 5, by omega, ?_⟩⟩
      rw [q365_27]
      rw [r1 m hm]
      (try simp only [bd_s])
      rw [w328_e2 hC, kI_r]
      rw [r1 m1 low]
      (try simp only [bd_s])
      rw [g, kI_r, t164 T', kI_r, if_pos rfl, q365_114, if_neg (by decide +kernel), q365_117]
theorem trn28 (he : e.1 ≤ x) (hm : ∀ q, q < x → m.1 q = m0.1 q) (hl : l0 < x) {y1 : Int32} (a1 : aI m0 0 l0 (i + Int32.ofNat 1) = some y1) (P : PAIR e x m0 C S0 YB 115 260 [.int y1] (ks2 1 2) m) : TRN e x l0 m0 C S0 YB i 28 m := by
  have r1 : ∀ m' : dMem, (∀ q, q < x → m'.1 q = m0.1 q) → aI m' 0 l0 (i + Int32.ofNat 1) = some y1 := fun m' h => (aI_m (h l0 hl)).trans a1
  rcases P with ⟨v, m1, hC, oL, hR⟩ | ⟨E, m1, B, m3, k1, k3, hC, low, g, T, Z⟩
  · obtain ⟨m2, s1, s2, s3, s4, s5⟩ := sL_o (e := e) (by omega) oL (v := v.toInt64)
    obtain ⟨low2, m3, g, T, q, Z⟩ := hR m2 s3 s4 s5
    have q' := (aL_m (k := 1) (i := Int32.ofNat 0) q).trans s2
    refine ⟨m3, Z, fun t => ⟨t + 5, by omega, ?_⟩⟩
    rw [q365_28]
    rw [r1 m hm]
    (try simp only [bd_s])
    rw [w329_0 hC s1, kI_r]
    rw [r1 m2 low2]
    (try simp only [bd_s])
    rw [g, kI_r, t164 T, kI_r, if_pos rfl, q365_118, if_pos rfl, q', bd_s]
    rw [if_pos (lg_e _), q365_119]
  · rcases ks2_c k1 with rfl | rfl
    · have T' : THR x 1 m3 := T
      refine ⟨m3, Z, fun t => ⟨t + 5, by omega, ?_⟩⟩
      rw [q365_28]
      rw [r1 m hm]
      (try simp only [bd_s])
      rw [w329_e1 hC, kI_r]
      rw [r1 m1 low]
      (try simp only [bd_s])
      rw [g, kI_r, t164 T', kI_r, if_pos rfl, q365_118, if_neg (by decide +kernel), q365_119]
    · have T' : THR x 2 m3 := T
      refine ⟨m3, Z, fun t => ⟨t + 5, by omega, ?_⟩⟩
      rw [q365_28]
      rw [r1 m hm]
      (try simp only [bd_s])
      rw [w329_e2 hC, kI_r]
      rw [r1 m1 low]
      (try simp only [bd_s])
      rw [g, kI_r, t164 T', kI_r, if_pos rfl, q365_118, if_neg (by decide +kernel), q365_119]
theorem trn29 (he : e.1 ≤ x) (hm : ∀ q, q < x → m.1 q = m0.1 q) (hl : l0 < x) {y1 : Int32} (a1 : aI m0 0 l0 (i + Int32.ofNat 1) = some y1) (P : PAIR e x m0 C S0 YB 116 261 [.int y1] (ks2 1 2) m) : TRN e x l0 m0 C S0 YB i 29 m := by
  have r1 : ∀ m' : dMem, (∀ q, q < x → m'.1 q = m0.1 q) → aI m' 0 l0 (i + Int32.ofNat 1) = some y1 := fun m' h => (aI_m (h l0 hl)).trans a1
  rcases P with ⟨v, m1, hC, oL, hR⟩ | ⟨E, m1, B, m3, k1, k3, hC, low, g, T, Z⟩
  · obtain ⟨m2, s1, s2, s3, s4, s5⟩ := sL_o (e := e) (by omega) oL (v := v.toInt64)
    obtain ⟨low2, m3, g, T, q, Z⟩ := hR m2 s3 s4 s5
    have q' := (aL_m (k := 1) (i := Int32.ofNat 0) q).trans s2
    refine ⟨m3, Z, fun t => ⟨t + 5, by omega, ?_⟩⟩
    rw [q365_29]
    rw [r1 m hm]
    (try simp only [bd_s])
    rw [w330_0 hC s1, kI_r]
    rw [r1 m2 low2]
    (try simp only [bd_s])
    rw [g, kI_r, t164 T, kI_r, if_pos rfl, q365_120, if_pos rfl, q', bd_s]
    rw [if_pos (lg_e _), q365_121]
  · rcases ks2_c k1 with rfl | rfl
    · have T' : THR x 1 m3 := T
      refine ⟨m3, Z, fun t => ⟨t + 5, by omega, ?_⟩⟩
      rw [q365_29]
      rw [r1 m hm]
      (try simp only [bd_s])
      rw [w330_e1 hC, kI_r]
      rw [r1 m1 low]
      (try simp only [bd_s])
      rw [g, kI_r, t164 T', kI_r, if_pos rfl, q365_120, if_neg (by decide +kernel), q365_121]
    · have T' : THR x 2 m3 := T
      refine ⟨m3, Z, fun t => ⟨t + 5, by omega, ?_⟩⟩
      rw [q365_29]
      rw [r1 m hm]
      (try simp only [bd_s])
      rw [w330_e2 hC, kI_r]
      rw [r1 m1 low]
      (try simp only [bd_s])
      rw [g, kI_r, t164 T', kI_r, if_pos rfl, q365_120, if_neg (by decide +kernel), q365_121]
theorem trn30 (he : e.1 ≤ x) (hm : ∀ q, q < x → m.1 q = m0.1 q) (hl : l0 < x) {y1 : Int32} (a1 : aI m0 0 l0 (i + Int32.ofNat 1) = some y1) (P : PAIR e x m0 C S0 YB 117 262 [.int y1] (ks2 1 2) m) : TRN e x l0 m0 C S0 YB i 30 m := by
  have r1 : ∀ m' : dMem, (∀ q, q < x → m'.1 q = m0.1 q) → aI m' 0 l0 (i + Int32.ofNat 1) = some y1 := fun m' h => (aI_m (h l0 hl)).trans a1
  rcases P with ⟨v, m1, hC, oL, hR⟩ | ⟨E, m1, B, m3, k1, k3, hC, low, g, T, Z⟩
  · obtain ⟨m2, s1, s2, s3, s4, s5⟩ := sL_o (e := e) (by omega) oL (v := v.toInt64)
    obtain ⟨low2, m3, g, T, q, Z⟩ := hR m2 s3 s4 s5
    have q' := (aL_m (k := 1) (i := Int32.ofNat 0) q).trans s2
    refine ⟨m3, Z, fun t => ⟨t + 5, by omega, ?_⟩⟩
    rw [q365_30]
    rw [r1 m hm]
    (try simp only [bd_s])
    rw [w331_0 hC s1, kI_r]
    rw [r1 m2 low2]
    (try simp only [bd_s])
    rw [g, kI_r, t164 T, kI_r, if_pos rfl, q365_122, if_pos rfl, q', bd_s]
    rw [if_pos (lg_e _), q365_123]
  · rcases ks2_c k1 with rfl | rfl
    · have T' : THR x 1 m3 := T
      refine ⟨m3, Z, fun t => ⟨t + 5, by omega, ?_⟩⟩
      rw [q365_30]
      rw [r1 m hm]
      (try simp only [bd_s])
      rw [w331_e1 hC, kI_r]
      rw [r1 m1 low]
      (try simp only [bd_s])
      rw [g, kI_r, t164 T', kI_r, if_pos rfl, q365_122, if_neg (by decide +kernel), q365_123]
    · have T' : THR x 2 m3 := T
      refine ⟨m3, Z, fun t => ⟨t + 5, by omega, ?_⟩⟩
      rw [q365_30]
      rw [r1 m hm]
      (try simp only [bd_s])
      rw [w331_e2 hC, kI_r]
      rw [r1 m1 low]
      (try simp only [bd_s])
      rw [g, kI_r, t164 T', kI_r, if_pos rfl, q365_122, if_neg (by decide +kernel), q365_123]
theorem trn31 (he : e.1 ≤ x) (hm : ∀ q, q < x → m.1 q = m0.1 q) (hl : l0 < x) {y1 : Int32} (a1 : aI m0 0 l0 (i + Int32.ofNat 1) = some y1) (P : PAIR e x m0 C S0 YB 118 263 [.int y1] (ks2 1 2) m) : TRN e x l0 m0 C S0 YB i 31 m := by
  have r1 : ∀ m' : dMem, (∀ q, q < x → m'.1 q = m0.1 q) → aI m' 0 l0 (i + Int32.ofNat 1) = some y1 := fun m' h => (aI_m (h l0 hl)).trans a1
  rcases P with ⟨v, m1, hC, oL, hR⟩ | ⟨E, m1, B, m3, k1, k3, hC, low, g, T, Z⟩
  · obtain ⟨m2, s1, s2, s3, s4, s5⟩ := sL_o (e := e) (by omega) oL (v := v.toInt64)
    obtain ⟨low2, m3, g, T, q, Z⟩ := hR m2 s3 s4 s5
    have q' := (aL_m (k := 1) (i := Int32.ofNat 0) q).trans s2
    refine ⟨m3, Z, fun t => ⟨t + 5, by omega, ?_⟩⟩
    rw [q365_31]
    rw [r1 m hm]
    (try simp only [bd_s])
    rw [w332_0 hC s1, kI_r]
    rw [r1 m2 low2]
    (try simp only [bd_s])
    rw [g, kI_r, t164 T, kI_r, if_pos rfl, q365_124, if_pos rfl, q', bd_s]
    rw [if_pos (lg_e _), q365_125]
  · rcases ks2_c k1 with rfl | rfl
    · have T' : THR x 1 m3 := T
      refine ⟨m3, Z, fun t => ⟨t + 5, by omega, ?_⟩⟩
      rw [q365_31]
      rw [r1 m hm]
      (try simp only [bd_s])
      rw [w332_e1 hC, kI_r]
      rw [r1 m1 low]
      (try simp only [bd_s])
      rw [g, kI_r, t164 T', kI_r, if_pos rfl, q365_124, if_neg (by decide +kernel), q365_125]
    · have T' : THR x 2 m3 := T
      refine ⟨m3, Z, fun t => ⟨t + 5, by omega, ?_⟩⟩
      rw [q365_31]
      rw [r1 m hm]
      (try simp only [bd_s])
      rw [w332_e2 hC, kI_r]
      rw [r1 m1 low]
      (try simp only [bd_s])
      rw [g, kI_r, t164 T', kI_r, if_pos rfl, q365_124, if_neg (by decide +kernel), q365_125]
theorem trn32 (he : e.1 ≤ x) (hm : ∀ q, q < x → m.1 q = m0.1 q) (hl : l0 < x) {y1 : Int32} (a1 : aI m0 0 l0 (i + Int32.ofNat 1) = some y1) (P : PAIR e x m0 C S0 YB 119 264 [.int y1] (ks2 1 2) m) : TRN e x l0 m0 C S0 YB i 32 m := by
  have r1 : ∀ m' : dMem, (∀ q, q < x → m'.1 q = m0.1 q) → aI m' 0 l0 (i + Int32.ofNat 1) = some y1 := fun m' h => (aI_m (h l0 hl)).trans a1
  rcases P with ⟨v, m1, hC, oL, hR⟩ | ⟨E, m1, B, m3, k1, k3, hC, low, g, T, Z⟩
  · obtain ⟨m2, s1, s2, s3, s4, s5⟩ := sL_o (e := e) (by omega) oL (v := v.toInt64)
    obtain ⟨low2, m3, g, T, q, Z⟩ := hR m2 s3 s4 s5
    have q' := (aL_m (k := 1) (i := Int32.ofNat 0) q).trans s2
    refine ⟨m3, Z, fun t => ⟨t + 5, by omega, ?_⟩⟩
    rw [q365_32]
    rw [r1 m hm]
    (try simp only [bd_s])
    rw [w333_0 hC s1, kI_r]
    rw [r1 m2 low2]
    (try simp only [bd_s])
    rw [g, kI_r, t164 T, kI_r, if_pos rfl, q365_126, if_pos rfl, q', bd_s]
    rw [if_pos (lg_e _), q365_127]
  · rcases ks2_c k1 with rfl | rfl
    · have T' : THR x 1 m3 := T
      refine ⟨m3, Z, fun t => ⟨t + 5, by omega, ?_⟩⟩
      rw [q365_32]
      rw [r1 m hm]
      (try simp only [bd_s])
      rw [w333_e1 hC, kI_r]
      rw [r1 m1 low]
      (try simp only [bd_s])
      rw [g, kI_r, t164 T', kI_r, if_pos rfl, q365_126, if_neg (by decide +kernel), q365_127]
    · have T' : THR x 2 m3 := T
      refine ⟨m3, Z, fun t => ⟨t + 5, by omega, ?_⟩⟩
      rw [q365_32]
      rw [r1 m hm]
      (try simp only [bd_s])
      rw [w333_e2 hC, kI_r]
      rw [r1 m1 low]
      (try simp only [bd_s])
      rw [g, kI_r, t164 T', kI_r, if_pos rfl, q365_126, if_neg (by decide +kernel), q365_127]
theorem trn33 (he : e.1 ≤ x) (hm : ∀ q, q < x → m.1 q = m0.1 q) (hl : l0 < x) {y1 : Int32} (a1 : aI m0 0 l0 (i + Int32.ofNat 1) = some y1) (P : PAIR e x m0 C S0 YB 120 265 [.int y1] (ks2 1 2) m) : TRN e x l0 m0 C S0 YB i 33 m := by
  have r1 : ∀ m' : dMem, (∀ q, q < x → m'.1 q = m0.1 q) → aI m' 0 l0 (i + Int32.ofNat 1) = some y1 := fun m' h => (aI_m (h l0 hl)).trans a1
  rcases P with ⟨v, m1, hC, oL, hR⟩ | ⟨E, m1, B, m3, k1, k3, hC, low, g, T, Z⟩
  · obtain ⟨m2, s1, s2, s3, s4, s5⟩ := sL_o (e := e) (by omega) oL (v := v.toInt64)
    obtain ⟨low2, m3, g, T, q, Z⟩ := hR m2 s3 s4 s5
    have q' := (aL_m (k := 1) (i := Int32.ofNat 0) q).trans s2
    refine ⟨m3, Z, fun t => ⟨t + 5, by omega, ?_⟩⟩
    rw [q365_33]
    rw [r1 m hm]
    (try simp only [bd_s])
    rw [w334_0 hC s1, kI_r]
    rw [r1 m2 low2]
    (try simp only [bd_s])
    rw [g, kI_r, t164 T, kI_r, if_pos rfl, q365_128, if_pos rfl, q', bd_s]
    rw [if_pos (lg_e _), q365_129]
  · rcases ks2_c k1 with rfl | rfl
    · have T' : THR x 1 m3 := T
      refine ⟨m3, Z, fun t => ⟨t + 5, by omega, ?_⟩⟩
      rw [q365_33]
      rw [r1 m hm]
      (try simp only [bd_s])
      rw [w334_e1 hC, kI_r]
      rw [r1 m1 low]
      (try simp only [bd_s])
      rw [g, kI_r, t164 T', kI_r, if_pos rfl, q365_128, if_neg (by decide +kernel), q365_129]
    · have T' : THR x 2 m3 := T
      refine ⟨m3, Z, fun t => ⟨t + 5, by omega, ?_⟩⟩
      rw [q365_33]
      rw [r1 m hm]
      (try simp only [bd_s])
      rw [w334_e2 hC, kI_r]
      rw [r1 m1 low]
      (try simp only [bd_s])
      rw [g, kI_r, t164 T', kI_r, if_pos rfl, q365_128, if_neg (by decide +kernel), q365_129]
theorem trn34 (he : e.1 ≤ x) (hm : ∀ q, q < x → m.1 q = m0.1 q) (hl : l0 < x) (P : PAIR e x m0 C S0 YB 121 266 [] (ks1 1) m) : TRN e x l0 m0 C S0 YB i 34 m := by
  rcases P with ⟨v, m1, hC, oL, hR⟩ | ⟨E, m1, B, m3, k1, k3, hC, low, g, T, Z⟩
  · obtain ⟨m2, s1, s2, s3, s4, s5⟩ := sL_o (e := e) (by omega) oL (v := v.toInt64)
    obtain ⟨low2, m3, g, T, q, Z⟩ := hR m2 s3 s4 s5
    have q' := (aL_m (k := 1) (i := Int32.ofNat 0) q).trans s2
    refine ⟨m3, Z, fun t => ⟨t + 5, by omega, ?_⟩⟩
    rw [q365_34]
    rw [w335_0 hC s1, kI_r]
    rw [g, kI_r, t164 T, kI_r, if_pos rfl, q365_130, if_pos rfl, q', bd_s]
    rw [if_pos (lg_e _), q365_131]
  · have hE := ks1_c k1
    subst hE
    have T' : THR x 1 m3 := T
    refine ⟨m3, Z, fun t => ⟨t + 5, by omega, ?_⟩⟩
    rw [q365_34]
    rw [w335_e1 hC, kI_r]
    rw [g, kI_r, t164 T', kI_r, if_pos rfl, q365_130, if_neg (by decide +kernel), q365_131]
theorem trn35 (he : e.1 ≤ x) (hm : ∀ q, q < x → m.1 q = m0.1 q) (hl : l0 < x) {y1 : Int32} (a1 : aI m0 0 l0 (i + Int32.ofNat 1) = some y1) (P : PAIR e x m0 C S0 YB 122 267 [.int y1] (ks2 1 2) m) : TRN e x l0 m0 C S0 YB i 35 m := by
  have r1 : ∀ m' : dMem, (∀ q, q < x → m'.1 q = m0.1 q) → aI m' 0 l0 (i + Int32.ofNat 1) = some y1 := fun m' h => (aI_m (h l0 hl)).trans a1
  rcases P with ⟨v, m1, hC, oL, hR⟩ | ⟨E, m1, B, m3, k1, k3, hC, low, g, T, Z⟩
  · obtain ⟨m2, s1, s2, s3, s4, s5⟩ := sL_o (e := e) (by omega) oL (v := v.toInt64)
    obtain ⟨low2, m3, g, T, q, Z⟩ := hR m2 s3 s4 s5
    have q' := (aL_m (k := 1) (i := Int32.ofNat 0) q).trans s2
    refine ⟨m3, Z, fun t => ⟨t + 5, by omega, ?_⟩⟩
    rw [q365_35]
    rw [r1 m hm]
    (try simp only [bd_s])
    rw [w336_0 hC s1, kI_r]
    rw [r1 m2 low2]
    (try simp only [bd_s])
    rw [g, kI_r, t164 T, kI_r, if_pos rfl, q365_132, if_pos rfl, q', bd_s]
    rw [if_pos (lg_e _), q365_133]
  · rcases ks2_c k1 with rfl | rfl
    · have T' : THR x 1 m3 := T
      refine ⟨m3, Z, fun t => ⟨t + 5, by omega, ?_⟩⟩
      rw [q365_35]
      rw [r1 m hm]
      (try simp only [bd_s])
      rw [w336_e1 hC, kI_r]
      rw [r1 m1 low]
      (try simp only [bd_s])
      rw [g, kI_r, t164 T', kI_r, if_pos rfl, q365_132, if_neg (by decide +kernel), q365_133]
    · have T' : THR x 2 m3 := T
      refine ⟨m3, Z, fun t => ⟨t + 5, by omega, ?_⟩⟩
      rw [q365_35]
      rw [r1 m hm]
      (try simp only [bd_s])
      rw [w336_e2 hC, kI_r]
      rw [r1 m1 low]
      (try simp only [bd_s])
      rw [g, kI_r, t164 T', kI_r, if_pos rfl, q365_132, if_neg (by decide +kernel), q365_133]
theorem trn36 (he : e.1 ≤ x) (hm : ∀ q, q < x → m.1 q = m0.1 q) (hl : l0 < x) {y1 y2 : Int32} (a1 : aI m0 0 l0 (i + Int32.ofNat 1) = some y1) (a2 : aI m0 0 l0 (i + Int32.ofNat 2) = some y2) (P : PAIR e x m0 C S0 YB 123 269 [.int y1, .int y2] (ks2 1 2) m) : TRN e x l0 m0 C S0 YB i 36 m := by
  have r1 : ∀ m' : dMem, (∀ q, q < x → m'.1 q = m0.1 q) → aI m' 0 l0 (i + Int32.ofNat 1) = some y1 := fun m' h => (aI_m (h l0 hl)).trans a1
  have r2 : ∀ m' : dMem, (∀ q, q < x → m'.1 q = m0.1 q) → aI m' 0 l0 (i + Int32.ofNat 2) = some y2 := fun m' h => (aI_m (h l0 hl)).trans a2
  rcases P with ⟨v, m1, hC, oL, hR⟩ | ⟨E, m1, B, m3, k1, k3, hC, low, g, T, Z⟩
  · obtain ⟨m2, s1, s2, s3, s4, s5⟩ := sL_o (e := e) (by omega) oL (v := v.toInt64)
    obtain ⟨low2, m3, g, T, q, Z⟩ := hR m2 s3 s4 s5
    have q' := (aL_m (k := 1) (i := Int32.ofNat 0) q).trans s2
    refine ⟨m3, Z, fun t => ⟨t + 5, by omega, ?_⟩⟩
    rw [q365_36]
    rw [r1 m hm]
    (try simp only [bd_s])
    rw [r2 m hm]
    (try simp only [bd_s])
    rw [w337_0 hC s1, kI_r]
    rw [r1 m2 low2]
    (try simp only [bd_s])
    rw [r2 m2 low2]
    (try simp only [bd_s])
    rw [g, kI_r, t164 T, kI_r, if_pos rfl, q365_134, if_pos rfl, q', bd_s]
    rw [if_pos (lg_e _), q365_135]
  · rcases ks2_c k1 with rfl | rfl
    · have T' : THR x 1 m3 := T
      refine ⟨m3, Z, fun t => ⟨t + 5, by omega, ?_⟩⟩
      rw [q365_36]
      rw [r1 m hm]
      (try simp only [bd_s])
      rw [r2 m hm]
      (try simp only [bd_s])
      rw [w337_e1 hC, kI_r]
      rw [r1 m1 low]
      (try simp only [bd_s])
      rw [r2 m1 low]
      (try simp only [bd_s])
      rw [g, kI_r, t164 T', kI_r, if_pos rfl, q365_134, if_neg (by decide +kernel), q365_135]
    · have T' : THR x 2 m3 := T
      refine ⟨m3, Z, fun t => ⟨t + 5, by omega, ?_⟩⟩
      rw [q365_36]
      rw [r1 m hm]
      (try simp only [bd_s])
      rw [r2 m hm]
      (try simp only [bd_s])
      rw [w337_e2 hC, kI_r]
      rw [r1 m1 low]
      (try simp only [bd_s])
      rw [r2 m1 low]
      (try simp only [bd_s])
      rw [g, kI_r, t164 T', kI_r, if_pos rfl, q365_134, if_neg (by decide +kernel), q365_135]
theorem trn37 (he : e.1 ≤ x) (hm : ∀ q, q < x → m.1 q = m0.1 q) (hl : l0 < x) {y1 : Int32} (a1 : aI m0 0 l0 (i + Int32.ofNat 1) = some y1) (P : PAIR e x m0 C S0 YB 124 270 [.int y1] (ks2 1 2) m) : TRN e x l0 m0 C S0 YB i 37 m := by
  have r1 : ∀ m' : dMem, (∀ q, q < x → m'.1 q = m0.1 q) → aI m' 0 l0 (i + Int32.ofNat 1) = some y1 := fun m' h => (aI_m (h l0 hl)).trans a1
  rcases P with ⟨v, m1, hC, oL, hR⟩ | ⟨E, m1, B, m3, k1, k3, hC, low, g, T, Z⟩
  · obtain ⟨m2, s1, s2, s3, s4, s5⟩ := sL_o (e := e) (by omega) oL (v := v.toInt64)
    obtain ⟨low2, m3, g, T, q, Z⟩ := hR m2 s3 s4 s5
    have q' := (aL_m (k := 1) (i := Int32.ofNat 0) q).trans s2
    refine ⟨m3, Z, fun t => ⟨t + 5, by omega, ?_⟩⟩
    rw [q365_37]
    rw [r1 m hm]
    (try simp only [bd_s])
    rw [w338_0 hC s1, kI_r]
    rw [r1 m2 low2]
    (try simp only [bd_s])
    rw [g, kI_r, t164 T, kI_r, if_pos rfl, q365_136, if_pos rfl, q', bd_s]
    rw [if_pos (lg_e _), q365_137]
  · rcases ks2_c k1 with rfl | rfl
    · have T' : THR x 1 m3 := T
      refine ⟨m3, Z, fun t => ⟨t + 5, by omega, ?_⟩⟩
      rw [q365_37]
      rw [r1 m hm]
      (try simp only [bd_s])
      rw [w338_e1 hC, kI_r]
      rw [r1 m1 low]
      (try simp only [bd_s])
      rw [g, kI_r, t164 T', kI_r, if_pos rfl, q365_136, if_neg (by decide +kernel), q365_137]
    · have T' : THR x 2 m3 := T
      refine ⟨m3, Z, fun t => ⟨t + 5, by omega, ?_⟩⟩
      rw [q365_37]
      rw [r1 m hm]
      (try simp only [bd_s])
      rw [w338_e2 hC, kI_r]
      rw [r1 m1 low]
      (try simp only [bd_s])
      rw [g, kI_r, t164 T', kI_r, if_pos rfl, q365_136, if_neg (by decide +kernel), q365_137]
theorem trn38 (he : e.1 ≤ x) (hm : ∀ q, q < x → m.1 q = m0.1 q) (hl : l0 < x) {y1 : Int32} (a1 : aI m0 0 l0 (i + Int32.ofNat 1) = some y1) (P : PAIR e x m0 C S0 YB 125 271 [.int y1] (ks2 1 2) m) : TRN e x l0 m0 C S0 YB i 38 m := by
  have r1 : ∀ m' : dMem, (∀ q, q < x → m'.1 q = m0.1 q) → aI m' 0 l0 (i + Int32.ofNat 1) = some y1 := fun m' h => (aI_m (h l0 hl)).trans a1
  rcases P with ⟨v, m1, hC, oL, hR⟩ | ⟨E, m1, B, m3, k1, k3, hC, low, g, T, Z⟩
  · obtain ⟨m2, s1, s2, s3, s4, s5⟩ := sL_o (e := e) (by omega) oL (v := v.toInt64)
    obtain ⟨low2, m3, g, T, q, Z⟩ := hR m2 s3 s4 s5
    have q' := (aL_m (k := 1) (i := Int32.ofNat 0) q).trans s2
    refine ⟨m3, Z, fun t => ⟨t + 5, by omega, ?_⟩⟩
    rw [q365_38]
    rw [r1 m hm]
    (try simp only [bd_s])
    rw [w339_0 hC s1, kI_r]
    rw [r1 m2 low2]
    (try simp only [bd_s])
    rw [g, kI_r, t164 T, kI_r, if_pos rfl, q365_138, if_pos rfl, q', bd_s]
    rw [if_pos (lg_e _), q365_139]
  · rcases ks2_c k1 with rfl | rfl
    · have T' : THR x 1 m3 := T
      refine ⟨m3, Z, fun t => ⟨t + 5, by omega, ?_⟩⟩
      rw [q365_38]
      rw [r1 m hm]
      (try simp only [bd_s])
      rw [w339_e1 hC, kI_r]
      rw [r1 m1 low]
      (try simp only [bd_s])
      rw [g, kI_r, t164 T', kI_r, if_pos rfl, q365_138, if_neg (by decide +kernel), q365_139]
    · have T' : THR x 2 m3 := T
      refine ⟨m3, Z, fun t => ⟨t + 5, by omega, ?_⟩⟩
      rw [q365_38]
      rw [r1 m hm]
      (try simp only [bd_s])
      rw [w339_e2 hC, kI_r]
      rw [r1 m1 low]
      (try simp only [bd_s])
      rw [g, kI_r, t164 T', kI_r, if_pos rfl, q365_138, if_neg (by decide +kernel), q365_139]
theorem trn39 (he : e.1 ≤ x) (hm : ∀ q, q < x → m.1 q = m0.1 q) (hl : l0 < x) {y1 y2 : Int32} (a1 : aI m0 0 l0 (i + Int32.ofNat 1) = some y1) (a2 : aI m0 0 l0 (i + Int32.ofNat 2) = some y2) (P : PAIR e x m0 C S0 YB 126 273 [.int y1, .int y2] (ks2 1 2) m) : TRN e x l0 m0 C S0 YB i 39 m := by
  have r1 : ∀ m' : dMem, (∀ q, q < x → m'.1 q = m0.1 q) → aI m' 0 l0 (i + Int32.ofNat 1) = some y1 := fun m' h => (aI_m (h l0 hl)).trans a1
  have r2 : ∀ m' : dMem, (∀ q, q < x → m'.1 q = m0.1 q) → aI m' 0 l0 (i + Int32.ofNat 2) = some y2 := fun m' h => (aI_m (h l0 hl)).trans a2
  rcases P with ⟨v, m1, hC, oL, hR⟩ | ⟨E, m1, B, m3, k1, k3, hC, low, g, T, Z⟩
  · obtain ⟨m2, s1, s2, s3, s4, s5⟩ := sL_o (e := e) (by omega) oL (v := v.toInt64)
    obtain ⟨low2, m3, g, T, q, Z⟩ := hR m2 s3 s4 s5
    have q' := (aL_m (k := 1) (i := Int32.ofNat 0) q).trans s2
    refine ⟨m3, Z, fun t => ⟨t + 5, by omega, ?_⟩⟩
    rw [q365_39]
    rw [r1 m hm]
    (try simp only [bd_s])
    rw [r2 m hm]
    (try simp only [bd_s])
    rw [w340_0 hC s1, kI_r]
    rw [r1 m2 low2]
    (try simp only [bd_s])
    rw [r2 m2 low2]
    (try simp only [bd_s])
    rw [g, kI_r, t164 T, kI_r, if_pos rfl, q365_140, if_pos rfl, q', bd_s]
    rw [if_pos (lg_e _), q365_141]
  · rcases ks2_c k1 with rfl | rfl
    · have T' : THR x 1 m3 := T
      refine ⟨m3, Z, fun t => ⟨t + 5, by omega, ?_⟩⟩
      rw [q365_39]
      rw [r1 m hm]
      (try simp only [bd_s])
      rw [r2 m hm]
      (try simp only [bd_s])
      rw [w340_e1 hC, kI_r]
      rw [r1 m1 low]
      (try simp only [bd_s])
      rw [r2 m1 low]
      (try simp only [bd_s])
      rw [g, kI_r, t164 T', kI_r, if_pos rfl, q365_140, if_neg (by decide +kernel), q365_141]
    · have T' : THR x 2 m3 := T
      refine ⟨m3, Z, fun t => ⟨t + 5, by omega, ?_⟩⟩
      rw [q365_39]
      rw [r1 m hm]
      (try simp only [bd_s])
      rw [r2 m hm]
      (try simp only [bd_s])
      rw [w340_e2 hC, kI_r]
      rw [r1 m1 low]
      (try simp only [bd_s])
      rw [r2 m1 low]
      (try simp only [bd_s])
      rw [g, kI_r, t164 T', kI_r, if_pos rfl, q365_140, if_neg (by decide +kernel), q365_141]
theorem trn40 (he : e.1 ≤ x) (hm : ∀ q, q < x → m.1 q = m0.1 q) (hl : l0 < x) {y1 : Int32} (a1 : aI m0 0 l0 (i + Int32.ofNat 1) = some y1) (P : PAIR e x m0 C S0 YB 127 274 [.int y1] (ks2 1 2) m) : TRN e x l0 m0 C S0 YB i 40 m := by
  have r1 : ∀ m' : dMem, (∀ q, q < x → m'.1 q = m0.1 q) → aI m' 0 l0 (i + Int32.ofNat 1) = some y1 := fun m' h => (aI_m (h l0 hl)).trans a1
  rcases P with ⟨v, m1, hC, oL, hR⟩ | ⟨E, m1, B, m3, k1, k3, hC, low, g, T, Z⟩
  · obtain ⟨m2, s1, s2, s3, s4, s5⟩ := sL_o (e := e) (by omega) oL (v := v.toInt64)
    obtain ⟨low2, m3, g, T, q, Z⟩ := hR m2 s3 s4 s5
    have q' := (aL_m (k := 1) (i := Int32.ofNat 0) q).trans s2
    refine ⟨m3, Z, fun t => ⟨t + 5, by omega, ?_⟩⟩
    rw [q365_40]
    rw [r1 m hm]
    (try simp only [bd_s])
    rw [w341_0 hC s1, kI_r]
    rw [r1 m2 low2]
    (try simp only [bd_s])
    rw [g, kI_r, t164 T, kI_r, if_pos rfl, q365_142, if_pos rfl, q', bd_s]
    rw [if_pos (lg_e _), q365_143]
  · rcases ks2_c k1 with rfl | rfl
    · have T' : THR x 1 m3 := T
      refine ⟨m3, Z, fun t => ⟨t + 5, by omega, ?_⟩⟩
      rw [q365_40]
      rw [r1 m hm]
      (try simp only [bd_s])
      rw [w341_e1 hC, kI_r]
      rw [r1 m1 low]
      (try simp only [bd_s])
      rw [g, kI_r, t164 T', kI_r, if_pos rfl, q365_142, if_neg (by decide +kernel), q365_143]
    · have T' : THR x 2 m3 := T
      refine ⟨m3, Z, fun t => ⟨t + 5, by omega, ?_⟩⟩
      rw [q365_40]
      rw [r1 m hm]
      (try simp only [bd_s])
      rw [w341_e2 hC, kI_r]
      rw [r1 m1 low]
      (try simp only [bd_s])
      rw [g, kI_r, t164 T', kI_r, if_pos rfl, q365_142, if_neg (by decide +kernel), q365_143]
theorem trn41 (he : e.1 ≤ x) (hm : ∀ q, q < x → m.1 q = m0.1 q) (hl : l0 < x) {y1 : Int32} (a1 : aI m0 0 l0 (i + Int32.ofNat 1) = some y1) (P : PAIR e x m0 C S0 YB 128 275 [.int y1] (ks2 1 2) m) : TRN e x l0 m0 C S0 YB i 41 m := by
  have r1 : ∀ m' : dMem, (∀ q, q < x → m'.1 q = m0.1 q) → aI m' 0 l0 (i + Int32.ofNat 1) = some y1 := fun m' h => (aI_m (h l0 hl)).trans a1
  rcases P with ⟨v, m1, hC, oL, hR⟩ | ⟨E, m1, B, m3, k1, k3, hC, low, g, T, Z⟩
  · obtain ⟨m2, s1, s2, s3, s4, s5⟩ := sL_o (e := e) (by omega) oL (v := v.toInt64)
    obtain ⟨low2, m3, g, T, q, Z⟩ := hR m2 s3 s4 s5
    have q' := (aL_m (k := 1) (i := Int32.ofNat 0) q).trans s2
    refine ⟨m3, Z, fun t => ⟨t + 5, by omega, ?_⟩⟩
    rw [q365_41]
    rw [r1 m hm]
    (try simp only [bd_s])
    rw [w342_0 hC s1, kI_r]
    rw [r1 m2 low2]
    (try simp only [bd_s])
    rw [g, kI_r, t164 T, kI_r, if_pos rfl, q365_144, if_pos rfl, q', bd_s]
    rw [if_pos (lg_e _), q365_145]
  · rcases ks2_c k1 with rfl | rfl
    · have T' : THR x 1 m3 := T
      refine ⟨m3, Z, fun t => ⟨t + 5, by omega, ?_⟩⟩
      rw [q365_41]
      rw [r1 m hm]
      (try simp only [bd_s])
      rw [w342_e1 hC, kI_r]
      rw [r1 m1 low]
      (try simp only [bd_s])
      rw [g, kI_r, t164 T', kI_r, if_pos rfl, q365_144, if_neg (by decide +kernel), q365_145]
    · have T' : THR x 2 m3 := T
      refine ⟨m3, Z, fun t => ⟨t + 5, by omega, ?_⟩⟩
      rw [q365_41]
      rw [r1 m hm]
      (try simp only [bd_s])
      rw [w342_e2 hC, kI_r]
      rw [r1 m1 low]
      (try simp only [bd_s])
      rw [g, kI_r, t164 T', kI_r, if_pos rfl, q365_144, if_neg (by decide +kernel), q365_145]
theorem trn42 (he : e.1 ≤ x) (hm : ∀ q, q < x → m.1 q = m0.1 q) (hl : l0 < x) {y1 : Int32} (a1 : aI m0 0 l0 (i + Int32.ofNat 1) = some y1) (P : PAIR e x m0 C S0 YB 129 278 [.int y1] (ks2 1 3) m) : TRN e x l0 m0 C S0 YB i 42 m := by
  have r1 : ∀ m' : dMem, (∀ q, q < x → m'.1 q = m0.1 q) → aI m' 0 l0 (i + Int32.ofNat 1) = some y1 := fun m' h => (aI_m (h l0 hl)).trans a1
  rcases P with ⟨v, m1, hC, oL, hR⟩ | ⟨E, m1, B, m3, k1, k3, hC, low, g, T, Z⟩
  · obtain ⟨m2, s1, s2, s3, s4, s5⟩ := sL_o (e := e) (by omega) oL (v := v.toInt64)
    obtain ⟨low2, m3, g, T, q, Z⟩ := hR m2 s3 s4 s5
    have q' := (aL_m (k := 1) (i := Int32.ofNat 0) q).trans s2
    refine ⟨m3, Z, fun t => ⟨t + 5, by omega, ?_⟩⟩
    rw [q365_42]
    rw [r1 m hm]
    (try simp only [bd_s])
    rw [w343_0 hC s1, kI_r]
    rw [r1 m2 low2]
    (try simp only [bd_s])
    rw [g, kI_r, t164 T, kI_r, if_pos rfl, q365_146, if_pos rfl, q', bd_s]
    rw [if_pos (lg_e _), q365_147]
  · rcases ks2_c k1 with rfl | rfl
    · have T' : THR x 1 m3 := T
      refine ⟨m3, Z, fun t => ⟨t + 5, by omega, ?_⟩⟩
      rw [q365_42]
      rw [r1 m hm]
      (try simp only [bd_s])
      rw [w343_e1 hC, kI_r]
      rw [r1 m1 low]
      (try simp only [bd_s])
      rw [g, kI_r, t164 T', kI_r, if_pos rfl, q365_146, if_neg (by decide +kernel), q365_147]
    · have T' : THR x 2 m3 := T
      refine ⟨m3, Z, fun t => ⟨t + 5, by omega, ?_⟩⟩
      rw [q365_42]
      rw [r1 m hm]
      (try simp only [bd_s])
      rw [w343_e3 hC, kI_r]
      rw [r1 m1 low]
      (try simp only [bd_s])
      rw [g, kI_r, t164 T', kI_r, if_pos rfl, q365_146, if_neg (by decide +kernel), q365_147]
theorem trn43 (he : e.1 ≤ x) (hm : ∀ q, q < x → m.1 q = m0.1 q) (hl : l0 < x) {y1 : Int32} (a1 : aI m0 0 l0 (i + Int32.ofNat 1) = some y1) (P : PAIR e x m0 C S0 YB 130 280 [.int y1] (ks2 1 3) m) : TRN e x l0 m0 C S0 YB i 43 m := by
  have r1 : ∀ m' : dMem, (∀ q, q < x → m'.1 q = m0.1 q) → aI m' 0 l0 (i + Int32.ofNat 1) = some y1 := fun m' h => (aI_m (h l0 hl)).trans a1
  rcases P with ⟨v, m1, hC, oL, hR⟩ | ⟨E, m1, B, m3, k1, k3, hC, low, g, T, Z⟩
  · obtain ⟨m2, s1, s2, s3, s4, s5⟩ := sL_o (e := e) (by omega) oL (v := v.toInt64)
    obtain ⟨low2, m3, g, T, q, Z⟩ := hR m2 s3 s4 s5
    have q' := (aL_m (k := 1) (i := Int32.ofNat 0) q).trans s2
    refine ⟨m3, Z, fun t => ⟨t + 5, by omega, ?_⟩⟩
    rw [q365_43]
    rw [r1 m hm]
    (try simp only [bd_s])
    rw [w344_0 hC s1, kI_r]
    rw [r1 m2 low2]
    (try simp only [bd_s])
    rw [g, kI_r, t164 T, kI_r, if_pos rfl, q365_148, if_pos rfl, q', bd_s]
    rw [if_pos (lg_e _), q365_149]
  · rcases ks2_c k1 with rfl | rfl
    · have T' : THR x 1 m3 := T
      refine ⟨m3, Z, fun t => ⟨t + 5, by omega, ?_⟩⟩
      rw [q365_43]
      rw [r1 m hm]
      (try simp only [bd_s])
      rw [w344_e1 hC, kI_r]
      rw [r1 m1 low]
      (try simp only [bd_s])
      rw [g, kI_r, t164 T', kI_r, if_pos rfl, q365_148, if_neg (by decide +kernel), q365_149]
    · have T' : THR x 2 m3 := T
      refine ⟨m3, Z, fun t => ⟨t + 5, by omega, ?_⟩⟩
      rw [q365_43]
      rw [r1 m hm]
      (try simp only [bd_s])
      rw [w344_e3 hC, kI_r]
      rw [r1 m1 low]
      (try simp only [bd_s])
      rw [g, kI_r, t164 T', kI_r, if_pos rfl, q365_148, if_neg (by decide +kernel), q365_149]
theorem trn44 (he : e.1 ≤ x) (hm : ∀ q, q < x → m.1 q = m0.1 q) (hl : l0 < x) {y1 : Int32} (a1 : aI m0 0 l0 (i + Int32.ofNat 1) = some y1) (P : PAIR e x m0 C S0 YB 131 281 [.int y1] (ks2 1 3) m) : TRN e x l0 m0 C S0 YB i 44 m := by
  have r1 : ∀ m' : dMem, (∀ q, q < x → m'.1 q = m0.1 q) → aI m' 0 l0 (i + Int32.ofNat 1) = some y1 := fun m' h => (aI_m (h l0 hl)).trans a1
  rcases P with ⟨v, m1, hC, oL, hR⟩ | ⟨E, m1, B, m3, k1, k3, hC, low, g, T, Z⟩
  · obtain ⟨m2, s1, s2, s3, s4, s5⟩ := sL_o (e := e) (by omega) oL (v := v.toInt64)
    obtain ⟨low2, m3, g, T, q, Z⟩ := hR m2 s3 s4 s5
    have q' := (aL_m (k := 1) (i := Int32.ofNat 0) q).trans s2
    refine ⟨m3, Z, fun t => ⟨t + 5, by omega, ?_⟩⟩
    rw [q365_44]
    rw [r1 m hm]
    (try simp only [bd_s])
    rw [w345_0 hC s1, kI_r]
    rw [r1 m2 low2]
    (try simp only [bd_s])
    rw [g, kI_r, t164 T, kI_r, if_pos rfl, q365_150, if_pos rfl, q', bd_s]
    rw [if_pos (lg_e _), q365_151]
  · rcases ks2_c k1 with rfl | rfl
    · have T' : THR x 1 m3 := T
      refine ⟨m3, Z, fun t => ⟨t + 5, by omega, ?_⟩⟩
      rw [q365_44]
      rw [r1 m hm]
      (try simp only [bd_s])
      rw [w345_e1 hC, kI_r]
      rw [r1 m1 low]
      (try simp only [bd_s])
      rw [g, kI_r, t164 T', kI_r, if_pos rfl, q365_150, if_neg (by decide +kernel), q365_151]
    · have T' : THR x 2 m3 := T
      refine ⟨m3, Z, fun t => ⟨t + 5, by omega, ?_⟩⟩
      rw [q365_44]
      rw [r1 m hm]
      (try simp only [bd_s])
      rw [w345_e3 hC, kI_r]
      rw [r1 m1 low]
      (try simp only [bd_s])
      rw [g, kI_r, t164 T', kI_r, if_pos rfl, q365_150, if_neg (by decide +kernel), q365_151]
theorem trn45 (he : e.1 ≤ x) (hm : ∀ q, q < x → m.1 q = m0.1 q) (hl : l0 < x) (P : PAIR e x m0 C S0 YB 132 282 [] (ks1 1) m) : TRN e x l0 m0 C S0 YB i 45 m := by
  rcases P with ⟨v, m1, hC, oL, hR⟩ | ⟨E, m1, B, m3, k1, k3, hC, low, g, T, Z⟩
  · obtain ⟨m2, s1, s2, s3, s4, s5⟩ := sL_o (e := e) (by omega) oL (v := v.toInt64)
    obtain ⟨low2, m3, g, T, q, Z⟩ := hR m2 s3 s4 s5
    have q' := (aL_m (k := 1) (i := Int32.ofNat 0) q).trans s2
    refine ⟨m3, Z, fun t => ⟨t + 5, by omega, ?_⟩⟩
    rw [q365_45]
    rw [w346_0 hC s1, kI_r]
    rw [g, kI_r, t164 T, kI_r, if_pos rfl, q365_152, if_pos rfl, q', bd_s]
    rw [if_pos (lg_e _), q365_153]
  · have hE := ks1_c k1
    subst hE
    have T' : THR x 1 m3 := T
    refine ⟨m3, Z, fun t => ⟨t + 5, by omega, ?_⟩⟩
    rw [q365_45]
    rw [w346_e1 hC, kI_r]
    rw [g, kI_r, t164 T', kI_r, if_pos rfl, q365_152, if_neg (by decide +kernel), q365_153]
theorem trn48 (he : e.1 ≤ x) (hm : ∀ q, q < x → m.1 q = m0.1 q) (hl : l0 < x) {y1 : Int32} (a1 : aI m0 0 l0 (i + Int32.ofNat 1) = some y1) (P : PAIR e x m0 C S0 YB 135 287 [.int y1] (ks2 1 2) m) : TRN e x l0 m0 C S0 YB i 48 m := by
  have r1 : ∀ m' : dMem, (∀ q, q < x → m'.1 q = m0.1 q) → aI m' 0 l0 (i + Int32.ofNat 1) = some y1 := fun m' h => (aI_m (h l0 hl)).trans a1
  rcases P with ⟨v, m1, hC, oL, hR⟩ | ⟨E, m1, B, m3, k1, k3, hC, low, g, T, Z⟩
  · obtain ⟨m2, s1, s2, s3, s4, s5⟩ := sL_o (e := e) (by omega) oL (v := v.toInt64)
    obtain ⟨low2, m3, g, T, q, Z⟩ := hR m2 s3 s4 s5
    have q' := (aL_m (k := 1) (i := Int32.ofNat 0) q).trans s2
    refine ⟨m3, Z, fun t => ⟨t + 5, by omega, ?_⟩⟩
    rw [q365_48]
    rw [r1 m hm]
    (try simp only [bd_s])
    rw [w349_0 hC s1, kI_r]
    rw [r1 m2 low2]
    (try simp only [bd_s])
    rw [g, kI_r, t164 T, kI_r, if_pos rfl, q365_160, if_pos rfl, q', bd_s]
    rw [if_pos (lg_e _), q365_161]
  · rcases ks2_c k1 with rfl | rfl
    · have T' : THR x 1 m3 := T
      refine ⟨m3, Z, fun t => ⟨t + 5, by omega, ?_⟩⟩
      rw [q365_48]
      rw [r1 m hm]
      (try simp only [bd_s])
      rw [w349_e1 hC, kI_r]
      rw [r1 m1 low]
      (try simp only [bd_s])
      rw [g, kI_r, t164 T', kI_r, if_pos rfl, q365_160, if_neg (by decide +kernel), q365_161]
    · have T' : THR x 2 m3 := T
      refine ⟨m3, Z, fun t => ⟨t + 5, by omega, ?_⟩⟩
      rw [q365_48]
      rw [r1 m hm]
      (try simp only [bd_s])
      rw [w349_e2 hC, kI_r]
      rw [r1 m1 low]
      (try simp only [bd_s])
      rw [g, kI_r, t164 T', kI_r, if_pos rfl, q365_160, if_neg (by decide +kernel), q365_161]
theorem trn49 (he : e.1 ≤ x) (hm : ∀ q, q < x → m.1 q = m0.1 q) (hl : l0 < x) {y1 : Int32} (a1 : aI m0 0 l0 (i + Int32.ofNat 1) = some y1) (P : PAIR e x m0 C S0 YB 136 289 [.int y1] (ks2 1 2) m) : TRN e x l0 m0 C S0 YB i 49 m := by
  have r1 : ∀ m' : dMem, (∀ q, q < x → m'.1 q = m0.1 q) → aI m' 0 l0 (i + Int32.ofNat 1) = some y1 := fun m' h => (aI_m (h l0 hl)).trans a1
  rcases P with ⟨v, m1, hC, oL, hR⟩ | ⟨E, m1, B, m3, k1, k3, hC, low, g, T, Z⟩
  · obtain ⟨m2, s1, s2, s3, s4, s5⟩ := sL_o (e := e) (by omega) oL (v := v.toInt64)
    obtain ⟨low2, m3, g, T, q, Z⟩ := hR m2 s3 s4 s5
    have q' := (aL_m (k := 1) (i := Int32.ofNat 0) q).trans s2
    refine ⟨m3, Z, fun t => ⟨t + 5, by omega, ?_⟩⟩
    rw [q365_49]
    rw [r1 m hm]
    (try simp only [bd_s])
    rw [w350_0 hC s1, kI_r]
    rw [r1 m2 low2]
    (try simp only [bd_s])
    rw [g, kI_r, t164 T, kI_r, if_pos rfl, q365_162, if_pos rfl, q', bd_s]
    rw [if_pos (lg_e _), q365_163]
  · rcases ks2_c k1 with rfl | rfl
    · have T' : THR x 1 m3 := T
      refine ⟨m3, Z, fun t => ⟨t + 5, by omega, ?_⟩⟩
      rw [q365_49]
      rw [r1 m hm]
      (try simp only [bd_s])
      rw [w350_e1 hC, kI_r]
      rw [r1 m1 low]
      (try simp only [bd_s])
      rw [g, kI_r, t164 T', kI_r, if_pos rfl, q365_162, if_neg (by decide +kernel), q365_163]
    · have T' : THR x 2 m3 := T
      refine ⟨m3, Z, fun t => ⟨t + 5, by omega, ?_⟩⟩
      rw [q365_49]
      rw [r1 m hm]
      (try simp only [bd_s])
      rw [w350_e2 hC, kI_r]
      rw [r1 m1 low]
      (try simp only [bd_s])
      rw [g, kI_r, t164 T', kI_r, if_pos rfl, q365_162, if_neg (by decide +kernel), q365_163]
theorem trn50 (he : e.1 ≤ x) (hm : ∀ q, q < x → m.1 q = m0.1 q) (hl : l0 < x) (P : PAIR e x m0 C S0 YB 137 290 [] (ks1 1) m) : TRN e x l0 m0 C S0 YB i 50 m := by
  rcases P with ⟨v, m1, hC, oL, hR⟩ | ⟨E, m1, B, m3, k1, k3, hC, low, g, T, Z⟩
  · obtain ⟨m2, s1, s2, s3, s4, s5⟩ := sL_o (e := e) (by omega) oL (v := v.toInt64)
    obtain ⟨low2, m3, g, T, q, Z⟩ := hR m2 s3 s4 s5
    have q' := (aL_m (k := 1) (i := Int32.ofNat 0) q).trans s2
    refine ⟨m3, Z, fun t => ⟨t + 5, by omega, ?_⟩⟩
    rw [q365_50]
    rw [w351_0 hC s1, kI_r]
    rw [g, kI_r, t164 T, kI_r, if_pos rfl, q365_164, if_pos rfl, q', bd_s]
    rw [if_pos (lg_e _), q365_165]
  · have hE := ks1_c k1
    subst hE
    have T' : THR x 1 m3 := T
    refine ⟨m3, Z, fun t => ⟨t + 5, by omega, ?_⟩⟩
    rw [q365_50]
    rw [w351_e1 hC, kI_r]
    rw [g, kI_r, t164 T', kI_r, if_pos rfl, q365_164, if_neg (by decide +kernel), q365_165]
theorem trn51 (he : e.1 ≤ x) (hm : ∀ q, q < x → m.1 q = m0.1 q) (hl : l0 < x) {y1 : Int32} (a1 : aI m0 0 l0 (i + Int32.ofNat 1) = some y1) (P : PAIR e x m0 C S0 YB 138 291 [.int y1] (ks1 2) m) : TRN e x l0 m0 C S0 YB i 51 m := by
  have r1 : ∀ m' : dMem, (∀ q, q < x → m'.1 q = m0.1 q) → aI m' 0 l0 (i + Int32.ofNat 1) = some y1 := fun m' h => (aI_m (h l0 hl)).trans a1
  rcases P with ⟨v, m1, hC, oL, hR⟩ | ⟨E, m1, B, m3, k1, k3, hC, low, g, T, Z⟩
  · obtain ⟨m2, s1, s2, s3, s4, s5⟩ := sL_o (e := e) (by omega) oL (v := v.toInt64)
    obtain ⟨low2, m3, g, T, q, Z⟩ := hR m2 s3 s4 s5
    have q' := (aL_m (k := 1) (i := Int32.ofNat 0) q).trans s2
    refine ⟨m3, Z, fun t => ⟨t + 5, by omega, ?_⟩⟩
    rw [q365_51]
    rw [r1 m hm]
    (try simp only [bd_s])
    rw [w352_0 hC s1, kI_r]
    rw [r1 m2 low2]
    (try simp only [bd_s])
    rw [g, kI_r, t164 T, kI_r, if_pos rfl, q365_166, if_pos rfl, q', bd_s]
    rw [if_pos (lg_e _), q365_167]
  · have hE := ks1_c k1
    subst hE
    have T' : THR x 1 m3 := T
    refine ⟨m3, Z, fun t => ⟨t + 5, by omega, ?_⟩⟩
    rw [q365_51]
    rw [r1 m hm]
    (try simp only [bd_s])
    rw [w352_e2 hC, kI_r]
    rw [r1 m1 low]
    (try simp only [bd_s])
    rw [g, kI_r, t164 T', kI_r, if_pos rfl, q365_166, if_neg (by decide +kernel), q365_167]
theorem trn52 (he : e.1 ≤ x) (hm : ∀ q, q < x → m.1 q = m0.1 q) (hl : l0 < x) {y1 : Int32} (a1 : aI m0 0 l0 (i + Int32.ofNat 1) = some y1) (P : PAIR e x m0 C S0 YB 139 293 [.int y1] (ks2 1 3) m) : TRN e x l0 m0 C S0 YB i 52 m := by
  have r1 : ∀ m' : dMem, (∀ q, q < x → m'.1 q = m0.1 q) → aI m' 0 l0 (i + Int32.ofNat 1) = some y1 := fun m' h => (aI_m (h l0 hl)).trans a1
  rcases P with ⟨v, m1, hC, oL, hR⟩ | ⟨E, m1, B, m3, k1, k3, hC, low, g, T, Z⟩
  · obtain ⟨m2, s1, s2, s3, s4, s5⟩ := sL_o (e := e) (by omega) oL (v := v.toInt64)
    obtain ⟨low2, m3, g, T, q, Z⟩ := hR m2 s3 s4 s5
    have q' := (aL_m (k := 1) (i := Int32.ofNat 0) q).trans s2
    refine ⟨m3, Z, fun t => ⟨t + 5, by omega, ?_⟩⟩
    rw [q365_52]
    rw [r1 m hm]
    (try simp only [bd_s])
    rw [w353_0 hC s1, kI_r]
    rw [r1 m2 low2]
    (try simp only [bd_s])
    rw [g, kI_r, t164 T, kI_r, if_pos rfl, q365_168, if_pos rfl, q', bd_s]
    rw [if_pos (lg_e _), q365_169]
  · rcases ks2_c k1 with rfl | rfl
    · have T' : THR x 1 m3 := T
      refine ⟨m3, Z, fun t => ⟨t + 5, by omega, ?_⟩⟩
      rw [q365_52]
      rw [r1 m hm]
      (try simp only [bd_s])
      rw [w353_e1 hC, kI_r]
      rw [r1 m1 low]
      (try simp only [bd_s])
      rw [g, kI_r, t164 T', kI_r, if_pos rfl, q365_168, if_neg (by decide +kernel), q365_169]
    · have T' : THR x 2 m3 := T
      refine ⟨m3, Z, fun t => ⟨t + 5, by omega, ?_⟩⟩
      rw [q365_52]
      rw [r1 m hm]
      (try simp only [bd_s])
      rw [w353_e3 hC, kI_r]
      rw [r1 m1 low]
      (try simp only [bd_s])
      rw [g, kI_r, t164 T', kI_r, if_pos rfl, q365_168, if_neg (by decide +kernel), q365_169]
theorem trn53 (he : e.1 ≤ x) (hm : ∀ q, q < x → m.1 q = m0.1 q) (hl : l0 < x) {y1 y2 : Int32} (a1 : aI m0 0 l0 (i + Int32.ofNat 1) = some y1) (a2 : aI m0 0 l0 (i + Int32.ofNat 2) = some y2) (P : PAIR e x m0 C S0 YB 140 294 [.int y1, .int y2] (ks3 1 2 3) m) : TRN e x l0 m0 C S0 YB i 53 m := by
  have r1 : ∀ m' : dMem, (∀ q, q < x → m'.1 q = m0.1 q) → aI m' 0 l0 (i + Int32.ofNat 1) = some y1 := fun m' h => (aI_m (h l0 hl)).trans a1
  have r2 : ∀ m' : dMem, (∀ q, q < x → m'.1 q = m0.1 q) → aI m' 0 l0 (i + Int32.ofNat 2) = some y2 := fun m' h => (aI_m (h l0 hl)).trans a2
  rcases P with ⟨v, m1, hC, oL, hR⟩ | ⟨E, m1, B, m3, k1, k3, hC, low, g, T, Z⟩
  · obtain ⟨m2, s1, s2, s3, s4, s5⟩ := sL_o (e := e) (by omega) oL (v := v.toInt64)
    obtain ⟨low2, m3, g, T, q, Z⟩ := hR m2 s3 s4 s5
    have q' := (aL_m (k := 1) (i := Int32.ofNat 0) q).trans s2
    refine ⟨m3, Z, fun t => ⟨t + 5, by omega, ?_⟩⟩
    rw [q365_53]
    rw [r1 m hm]
    (try simp only [bd_s])
    rw [r2 m hm]
    (try simp only [bd_s])
    rw [w354_0 hC s1, kI_r]
    rw [r1 m2 low2]
    (try simp only [bd_s])
    rw [r2 m2 low2]
    (try simp only [bd_s])
    rw [g, kI_r, t164 T, kI_r, if_pos rfl, q365_170, if_pos rfl, q', bd_s]
    rw [if_pos (lg_e _), q365_171]
  · rcases ks3_c k1 with rfl | rfl | rfl
    · have T' : THR x 1 m3 := T
      refine ⟨m3, Z, fun t => ⟨t + 5, by omega, ?_⟩⟩
      rw [q365_53]
      rw [r1 m hm]
      (try simp only [bd_s])
      rw [r2 m hm]
      (try simp only [bd_s])
      rw [w354_e1 hC, kI_r]
      rw [r1 m1 low]
      (try simp only [bd_s])
      rw [r2 m1 low]
      (try simp only [bd_s])
      rw [g, kI_r, t164 T', kI_r, if_pos rfl, q365_170, if_neg (by decide +kernel), q365_171]
    · have T' : THR x 2 m3 := T
      refine ⟨m3, Z, fun t => ⟨t + 5, by omega, ?_⟩⟩
      rw [q365_53]
      rw [r1 m hm]
      (try simp only [bd_s])
      rw [r2 m hm]
      (try simp only [bd_s])
      rw [w354_e2 hC, kI_r]
      rw [r1 m1 low]
      (try simp only [bd_s])
      rw [r2 m1 low]
      (try simp only [bd_s])
      rw [g, kI_r, t164 T', kI_r, if_pos rfl, q365_170, if_neg (by decide +kernel), q365_171]
    · have T' : THR x 3 m3 := T
      refine ⟨m3, Z, fun t => ⟨t + 5, by omega, ?_⟩⟩
      rw [q365_53]
      rw [r1 m hm]
      (try simp only [bd_s])
      rw [r2 m hm]
      (try simp only [bd_s])
      rw [w354_e3 hC, kI_r]
      rw [r1 m1 low]
      (try simp only [bd_s])
      rw [r2 m1 low]
      (try simp only [bd_s])
      rw [g, kI_r, t164 T', kI_r, if_pos rfl, q365_170, if_neg (by decide +kernel), q365_171]
theorem trn54 (he : e.1 ≤ x) (hm : ∀ q, q < x → m.1 q = m0.1 q) (hl : l0 < x) {y1 y2 y3 : Int32} (a1 : aI m0 0 l0 (i + Int32.ofNat 1) = some y1) (a2 : aI m0 0 l0 (i + Int32.ofNat 2) = some y2) (a3 : aI m0 0 l0 (i + Int32.ofNat 3) = some y3) (P : PAIR e x m0 C S0 YB 141 295 [.int y1, .int y2, .int y3] (ks3 1 2 3) m) : TRN e x l0 m0 C S0 YB i 54 m := by
  have r1 : ∀ m' : dMem, (∀ q, q < x → m'.1 q = m0.1 q) → aI m' 0 l0 (i + Int32.ofNat 1) = some y1 := fun m' h => (aI_m (h l0 hl)).trans a1
  have r2 : ∀ m' : dMem, (∀ q, q < x → m'.1 q = m0.1 q) → aI m' 0 l0 (i + Int32.ofNat 2) = some y2 := fun m' h => (aI_m (h l0 hl)).trans a2
  have r3 : ∀ m' : dMem, (∀ q, q < x → m'.1 q = m0.1 q) → aI m' 0 l0 (i + Int32.ofNat 3) = some y3 := fun m' h => (aI_m (h l0 hl)).trans a3
  rcases P with ⟨v, m1, hC, oL, hR⟩ | ⟨E, m1, B, m3, k1, k3, hC, low, g, T, Z⟩
  · obtain ⟨m2, s1, s2, s3, s4, s5⟩ := sL_o (e := e) (by omega) oL (v := v.toInt64)
    obtain ⟨low2, m3, g, T, q, Z⟩ := hR m2 s3 s4 s5
    have q' := (aL_m (k := 1) (i := Int32.ofNat 0) q).trans s2
    refine ⟨m3, Z, fun t => ⟨t + 5, by omega, ?_⟩⟩
    rw [q365_54]
    rw [r1 m hm]
    (try simp only [bd_s])
    rw [r2 m hm]
    (try simp only [bd_s])
    rw [r3 m hm]
    (try simp only [bd_s])
    rw [w355_0 hC s1, kI_r]
    rw [r1 m2 low2]
    (try simp only [bd_s])
    rw [r2 m2 low2]
    (try simp only [bd_s])
    rw [r3 m2 low2]
    (try simp only [bd_s])
    rw [g, kI_r, t164 T, kI_r, if_pos rfl, q365_172, if_pos rfl, q', bd_s]
    rw [if_pos (lg_e _), q365_173]
  · rcases ks3_c k1 with rfl | rfl | rfl
    · have T' : THR x 1 m3 := T
      refine ⟨m3, Z, fun t => ⟨t + 5, by omega, ?_⟩⟩
      rw [q365_54]
      rw [r1 m hm]
      (try simp only [bd_s])
      rw [r2 m hm]
      (try simp only [bd_s])
      rw [r3 m hm]
      (try simp only [bd_s])
      rw [w355_e1 hC, kI_r]
      rw [r1 m1 low]
      (try simp only [bd_s])
      rw [r2 m1 low]
      (try simp only [bd_s])
      rw [r3 m1 low]
      (try simp only [bd_s])
      rw [g, kI_r, t164 T', kI_r, if_pos rfl, q365_172, if_neg (by decide +kernel), q365_173]
    · have T' : THR x 2 m3 := T
      refine ⟨m3, Z, fun t => ⟨t + 5, by omega, ?_⟩⟩
      rw [q365_54]
      rw [r1 m hm]
      (try simp only [bd_s])
      rw [r2 m hm]
      (try simp only [bd_s])
      rw [r3 m hm]
      (try simp only [bd_s])
      rw [w355_e2 hC, kI_r]
      rw [r1 m1 low]
      (try simp only [bd_s])
      rw [r2 m1 low]
      (try simp only [bd_s])
      rw [r3 m1 low]
      (try simp only [bd_s])
      rw [g, kI_r, t164 T', kI_r, if_pos rfl, q365_172, if_neg (by decide +kernel), q365_173]
    · have T' : THR x 3 m3 := T
      refine ⟨m3, Z, fun t => ⟨t + 5, by omega, ?_⟩⟩
      rw [q365_54]
      rw [r1 m hm]
      (try simp only [bd_s])
      rw [r2 m hm]
      (try simp only [bd_s])
      rw [r3 m hm]
      (try simp only [bd_s])
      rw [w355_e3 hC, kI_r]
      rw [r1 m1 low]
      (try simp only [bd_s])
      rw [r2 m1 low]
      (try simp only [bd_s])
      rw [r3 m1 low]
      (try simp only [bd_s])
      rw [g, kI_r, t164 T', kI_r, if_pos rfl, q365_172, if_neg (by decide +kernel), q365_173]
theorem trn55 (he : e.1 ≤ x) (hm : ∀ q, q < x → m.1 q = m0.1 q) (hl : l0 < x) {y1 y2 : Int32} (a1 : aI m0 0 l0 (i + Int32.ofNat 1) = some y1) (a2 : aI m0 0 l0 (i + Int32.ofNat 2) = some y2) (P : PAIR e x m0 C S0 YB 142 296 [.int y1, .int y2] (ks3 1 2 3) m) : TRN e x l0 m0 C S0 YB i 55 m := by
  have r1 : ∀ m' : dMem, (∀ q, q < x → m'.1 q = m0.1 q) → aI m' 0 l0 (i + Int32.ofNat 1) = some y1 := fun m' h => (aI_m (h l0 hl)).trans a1
  have r2 : ∀ m' : dMem, (∀ q, q < x → m'.1 q = m0.1 q) → aI m' 0 l0 (i + Int32.ofNat 2) = some y2 := fun m' h => (aI_m (h l0 hl)).trans a2
  rcases P with ⟨v, m1, hC, oL, hR⟩ | ⟨E, m1, B, m3, k1, k3, hC, low, g, T, Z⟩
  · obtain ⟨m2, s1, s2, s3, s4, s5⟩ := sL_o (e := e) (by omega) oL (v := v.toInt64)
    obtain ⟨low2, m3, g, T, q, Z⟩ := hR m2 s3 s4 s5
    have q' := (aL_m (k := 1) (i := Int32.ofNat 0) q).trans s2
    refine ⟨m3, Z, fun t => ⟨t + 5, by omega, ?_⟩⟩
    rw [q365_55]
    rw [r1 m hm]
    (try simp only [bd_s])
    rw [r2 m hm]
    (try simp only [bd_s])
    rw [w356_0 hC s1, kI_r]
    rw [r1 m2 low2]
    (try simp only [bd_s])
    rw [r2 m2 low2]
    (try simp only [bd_s])
    rw [g, kI_r, t164 T, kI_r, if_pos rfl, q365_174, if_pos rfl, q', bd_s]
    rw [if_pos (lg_e _), q365_175]
  · rcases ks3_c k1 with rfl | rfl | rfl
    · have T' : THR x 1 m3 := T
      refine ⟨m3, Z, fun t => ⟨t + 5, by omega, ?_⟩⟩
      rw [q365_55]
      rw [r1 m hm]
      (try simp only [bd_s])
      rw [r2 m hm]
      (try simp only [bd_s])
      rw [w356_e1 hC, kI_r]
      rw [r1 m1 low]
      (try simp only [bd_s])
      rw [r2 m1 low]
      (try simp only [bd_s])
      rw [g, kI_r, t164 T', kI_r, if_pos rfl, q365_174, if_neg (by decide +kernel), q365_175]
    · have T' : THR x 2 m3 := T
      refine ⟨m3, Z, fun t => ⟨t + 5, by omega, ?_⟩⟩
      rw [q365_55]
      rw [r1 m hm]
      (try simp only [bd_s])
      rw [r2 m hm]
      (try simp only [bd_s])
      rw [w356_e2 hC, kI_r]
      rw [r1 m1 low]
      (try simp only [bd_s])
      rw [r2 m1 low]
      (try simp only [bd_s])
      rw [g, kI_r, t164 T', kI_r, if_pos rfl, q365_174, if_neg (by decide +kernel), q365_175]
    · have T' : THR x 3 m3 := T
      refine ⟨m3, Z, fun t => ⟨t + 5, by omega, ?_⟩⟩
      rw [q365_55]
      rw [r1 m hm]
      (try simp only [bd_s])
      rw [r2 m hm]
      (try simp only [bd_s])
      rw [w356_e3 hC, kI_r]
      rw [r1 m1 low]
      (try simp only [bd_s])
      rw [r2 m1 low]
      (try simp only [bd_s])
      rw [g, kI_r, t164 T', kI_r, if_pos rfl, q365_174, if_neg (by decide +kernel), q365_175]
theorem trn56 (he : e.1 ≤ x) (hm : ∀ q, q < x → m.1 q = m0.1 q) (hl : l0 < x) {y1 y2 : Int32} (a1 : aI m0 0 l0 (i + Int32.ofNat 1) = some y1) (a2 : aI m0 0 l0 (i + Int32.ofNat 2) = some y2) (P : PAIR e x m0 C S0 YB 143 297 [.int y1, .int y2] (ks3 1 2 3) m) : TRN e x l0 m0 C S0 YB i 56 m := by
  have r1 : ∀ m' : dMem, (∀ q, q < x → m'.1 q = m0.1 q) → aI m' 0 l0 (i + Int32.ofNat 1) = some y1 := fun m' h => (aI_m (h l0 hl)).trans a1
  have r2 : ∀ m' : dMem, (∀ q, q < x → m'.1 q = m0.1 q) → aI m' 0 l0 (i + Int32.ofNat 2) = some y2 := fun m' h => (aI_m (h l0 hl)).trans a2
  rcases P with ⟨v, m1, hC, oL, hR⟩ | ⟨E, m1, B, m3, k1, k3, hC, low, g, T, Z⟩
  · obtain ⟨m2, s1, s2, s3, s4, s5⟩ := sL_o (e := e) (by omega) oL (v := (if v = Int32.ofNat 0 then 0 else 1))
    obtain ⟨low2, m3, g, T, q, Z⟩ := hR m2 s3 s4 s5
    have q' := (aL_m (k := 1) (i := Int32.ofNat 0) q).trans s2
    refine ⟨m3, Z, fun t => ?_⟩
    rw [q365_56]
    rw [r1 m hm]
    (try simp only [bd_s])
    rw [r2 m hm]
    (try simp only [bd_s])
    rw [w357_0 hC s1, kI_r]
    rw [r1 m2 low2]
    (try simp only [bd_s])
    rw [r2 m2 low2]
    (try simp only [bd_s])
    rw [g, kI_r, t164 T, kI_r, if_pos rfl, q365_176, if_pos rfl, q', bd_s]
    by_cases qv : v = Int32.ofNat 0
    · rw [if_pos qv, if_pos qv, q365_177, q365_178, if_pos (lg_e _), q365_179]
      exact ⟨_, (show t ≤ t + 3 by omega), rfl⟩
    · rw [if_neg qv, if_neg qv, q365_178, if_pos (lg_e _), q365_179]
      exact ⟨_, (show t ≤ t + 4 by omega), rfl⟩
  · rcases ks3_c k1 with rfl | rfl | rfl
    · have T' : THR x 1 m3 := T
      refine ⟨m3, Z, fun t => ⟨t + 5, by omega, ?_⟩⟩
      rw [q365_56]
      rw [r1 m hm]
      (try simp only [bd_s])
      rw [r2 m hm]
      (try simp only [bd_s])
      rw [w357_e1 hC, kI_r]
      rw [r1 m1 low]
      (try simp only [bd_s])
      rw [r2 m1 low]
      (try simp only [bd_s])
      rw [g, kI_r, t164 T', kI_r, if_pos rfl, q365_176, if_neg (by decide +kernel), q365_179]
    · have T' : THR x 2 m3 := T
      refine ⟨m3, Z, fun t => ⟨t + 5, by omega, ?_⟩⟩
      rw [q365_56]
      rw [r1 m hm]
      (try simp only [bd_s])
      rw [r2 m hm]
      (try simp only [bd_s])
      rw [w357_e2 hC, kI_r]
      rw [r1 m1 low]
      (try simp only [bd_s])
      rw [r2 m1 low]
      (try simp only [bd_s])
      rw [g, kI_r, t164 T', kI_r, if_pos rfl, q365_176, if_neg (by decide +kernel), q365_179]
    · have T' : THR x 3 m3 := T
      refine ⟨m3, Z, fun t => ⟨t + 5, by omega, ?_⟩⟩
      rw [q365_56]
      rw [r1 m hm]
      (try simp only [bd_s])
      rw [r2 m hm]
      (try simp only [bd_s])
      rw [w357_e3 hC, kI_r]
      rw [r1 m1 low]
      (try simp only [bd_s])
      rw [r2 m1 low]
      (try simp only [bd_s])
      rw [g, kI_r, t164 T', kI_r, if_pos rfl, q365_176, if_neg (by decide +kernel), q365_179]
theorem trn57 (he : e.1 ≤ x) (hm : ∀ q, q < x → m.1 q = m0.1 q) (hl : l0 < x) {y1 : Int32} (a1 : aI m0 0 l0 (i + Int32.ofNat 1) = some y1) (P : PAIR e x m0 C S0 YB 144 298 [.int y1] (ks3 1 2 3) m) : TRN e x l0 m0 C S0 YB i 57 m := by
  have r1 : ∀ m' : dMem, (∀ q, q < x → m'.1 q = m0.1 q) → aI m' 0 l0 (i + Int32.ofNat 1) = some y1 := fun m' h => (aI_m (h l0 hl)).trans a1
  rcases P with ⟨v, m1, hC, oL, hR⟩ | ⟨E, m1, B, m3, k1, k3, hC, low, g, T, Z⟩
  · obtain ⟨m2, s1, s2, s3, s4, s5⟩ := sL_o (e := e) (by omega) oL (v := v.toInt64)
    obtain ⟨low2, m3, g, T, q, Z⟩ := hR m2 s3 s4 s5
    have q' := (aL_m (k := 1) (i := Int32.ofNat 0) q).trans s2
    refine ⟨m3, Z, fun t => ⟨t + 5, by omega, ?_⟩⟩
    rw [q365_57]
    rw [r1 m hm]
    (try simp only [bd_s])
    rw [w358_0 hC s1, kI_r]
    rw [r1 m2 low2]
    (try simp only [bd_s])
    rw [g, kI_r, t164 T, kI_r, if_pos rfl, q365_180, if_pos rfl, q', bd_s]
    rw [if_pos (lg_e _), q365_181]
  · rcases ks3_c k1 with rfl | rfl | rfl
    · have T' : THR x 1 m3 := T
      refine ⟨m3, Z, fun t => ⟨t + 5, by omega, ?_⟩⟩
      rw [q365_57]
      rw [r1 m hm]
      (try simp only [bd_s])
      rw [w358_e1 hC, kI_r]
      rw [r1 m1 low]
      (try simp only [bd_s])
      rw [g, kI_r, t164 T', kI_r, if_pos rfl, q365_180, if_neg (by decide +kernel), q365_181]
    · have T' : THR x 2 m3 := T
      refine ⟨m3, Z, fun t => ⟨t + 5, by omega, ?_⟩⟩
      rw [q365_57]
      rw [r1 m hm]
      (try simp only [bd_s])
      rw [w358_e2 hC, kI_r]
      rw [r1 m1 low]
      (try simp only [bd_s])
      rw [g, kI_r, t164 T', kI_r, if_pos rfl, q365_180, if_neg (by decide +kernel), q365_181]
    · have T' : THR x 3 m3 := T
      refine ⟨m3, Z, fun t => ⟨t + 5, by omega, ?_⟩⟩
      rw [q365_57]
      rw [r1 m hm]
      (try simp only [bd_s])
      rw [w358_e3 hC, kI_r]
      rw [r1 m1 low]
      (try simp only [bd_s])
      rw [g, kI_r, t164 T', kI_r, if_pos rfl, q365_180, if_neg (by decide +kernel), q365_181]
theorem trn58 (he : e.1 ≤ x) (hm : ∀ q, q < x → m.1 q = m0.1 q) (hl : l0 < x) (P : PAIR e x m0 C S0 YB 145 299 [] (ks1 1) m) : TRN e x l0 m0 C S0 YB i 58 m := by
  rcases P with ⟨v, m1, hC, oL, hR⟩ | ⟨E, m1, B, m3, k1, k3, hC, low, g, T, Z⟩
  · obtain ⟨m2, s1, s2, s3, s4, s5⟩ := sL_o (e := e) (by omega) oL (v := v.toInt64)
    obtain ⟨low2, m3, g, T, q, Z⟩ := hR m2 s3 s4 s5
    have q' := (aL_m (k := 1) (i := Int32.ofNat 0) q).trans s2
    refine ⟨m3, Z, fun t => ⟨t + 5, by omega, ?_⟩⟩
    rw [q365_58]
    rw [w359_0 hC s1, kI_r]
    rw [g, kI_r, t164 T, kI_r, if_pos rfl, q365_182, if_pos rfl, q', bd_s]
    rw [if_pos (lg_e _), q365_183]
  · have hE := ks1_c k1
    subst hE
    have T' : THR x 1 m3 := T
    refine ⟨m3, Z, fun t => ⟨t + 5, by omega, ?_⟩⟩
    rw [q365_58]
    rw [w359_e1 hC, kI_r]
    rw [g, kI_r, t164 T', kI_r, if_pos rfl, q365_182, if_neg (by decide +kernel), q365_183]
theorem trn59 (he : e.1 ≤ x) (hm : ∀ q, q < x → m.1 q = m0.1 q) (hl : l0 < x) {y1 y2 : Int32} (a1 : aI m0 0 l0 (i + Int32.ofNat 1) = some y1) (a2 : aI m0 0 l0 (i + Int32.ofNat 2) = some y2) (P : PAIR e x m0 C S0 YB 146 300 [.int y1, .int y2] (ks3 1 2 3) m) : TRN e x l0 m0 C S0 YB i 59 m := by
  have r1 : ∀ m' : dMem, (∀ q, q < x → m'.1 q = m0.1 q) → aI m' 0 l0 (i + Int32.ofNat 1) = some y1 := fun m' h => (aI_m (h l0 hl)).trans a1
  have r2 : ∀ m' : dMem, (∀ q, q < x → m'.1 q = m0.1 q) → aI m' 0 l0 (i + Int32.ofNat 2) = some y2 := fun m' h => (aI_m (h l0 hl)).trans a2
  rcases P with ⟨v, m1, hC, oL, hR⟩ | ⟨E, m1, B, m3, k1, k3, hC, low, g, T, Z⟩
  · obtain ⟨m2, s1, s2, s3, s4, s5⟩ := sL_o (e := e) (by omega) oL (v := v.toInt64)
    obtain ⟨low2, m3, g, T, q, Z⟩ := hR m2 s3 s4 s5
    have q' := (aL_m (k := 1) (i := Int32.ofNat 0) q).trans s2
    refine ⟨m3, Z, fun t => ⟨t + 5, by omega, ?_⟩⟩
    rw [q365_59]
    rw [r1 m hm]
    (try simp only [bd_s])
    rw [r2 m hm]
    (try simp only [bd_s])
    rw [w360_0 hC s1, kI_r]
    rw [r1 m2 low2]
    (try simp only [bd_s])
    rw [r2 m2 low2]
    (try simp only [bd_s])
    rw [g, kI_r, t164 T, kI_r, if_pos rfl, q365_184, if_pos rfl, q', bd_s]
    rw [if_pos (lg_e _), q365_185]
  · rcases ks3_c k1 with rfl | rfl | rfl
    · have T' : THR x 1 m3 := T
      refine ⟨m3, Z, fun t => ⟨t + 5, by omega, ?_⟩⟩
      rw [q365_59]
      rw [r1 m hm]
      (try simp only [bd_s])
      rw [r2 m hm]
      (try simp only [bd_s])
      rw [w360_e1 hC, kI_r]
      rw [r1 m1 low]
      (try simp only [bd_s])
      rw [r2 m1 low]
      (try simp only [bd_s])
      rw [g, kI_r, t164 T', kI_r, if_pos rfl, q365_184, if_neg (by decide +kernel), q365_185]
    · have T' : THR x 2 m3 := T
      refine ⟨m3, Z, fun t => ⟨t + 5, by omega, ?_⟩⟩
      rw [q365_59]
      rw [r1 m hm]
      (try simp only [bd_s])
      rw [r2 m hm]
      (try simp only [bd_s])
      rw [w360_e2 hC, kI_r]
      rw [r1 m1 low]
      (try simp only [bd_s])
      rw [r2 m1 low]
      (try simp only [bd_s])
      rw [g, kI_r, t164 T', kI_r, if_pos rfl, q365_184, if_neg (by decide +kernel), q365_185]
    · have T' : THR x 3 m3 := T
      refine ⟨m3, Z, fun t => ⟨t + 5, by omega, ?_⟩⟩
      rw [q365_59]
      rw [r1 m hm]
      (try simp only [bd_s])
      rw [r2 m hm]
      (try simp only [bd_s])
      rw [w360_e3 hC, kI_r]
      rw [r1 m1 low]
      (try simp only [bd_s])
      rw [r2 m1 low]
      (try simp only [bd_s])
      rw [g, kI_r, t164 T', kI_r, if_pos rfl, q365_184, if_neg (by decide +kernel), q365_185]
theorem trn60 (he : e.1 ≤ x) (hm : ∀ q, q < x → m.1 q = m0.1 q) (hl : l0 < x) (P : PAIR e x m0 C S0 YB 147 301 [] (ks1 1) m) : TRN e x l0 m0 C S0 YB i 60 m := by
  rcases P with ⟨v, m1, hC, oL, hR⟩ | ⟨E, m1, B, m3, k1, k3, hC, low, g, T, Z⟩
  · obtain ⟨m2, s1, s2, s3, s4, s5⟩ := sL_o (e := e) (by omega) oL (v := v.toInt64)
    obtain ⟨low2, m3, g, T, q, Z⟩ := hR m2 s3 s4 s5
    have q' := (aL_m (k := 1) (i := Int32.ofNat 0) q).trans s2
    refine ⟨m3, Z, fun t => ⟨t + 5, by omega, ?_⟩⟩
    rw [q365_60]
    rw [w361_0 hC s1, kI_r]
    rw [g, kI_r, t164 T, kI_r, if_pos rfl, q365_186, if_pos rfl, q', bd_s]
    rw [if_pos (lg_e _), q365_187]
  · have hE := ks1_c k1
    subst hE
    have T' : THR x 1 m3 := T
    refine ⟨m3, Z, fun t => ⟨t + 5, by omega, ?_⟩⟩
    rw [q365_60]
    rw [w361_e1 hC, kI_r]
    rw [g, kI_r, t164 T', kI_r, if_pos rfl, q365_186, if_neg (by decide +kernel), q365_187]
theorem trn61 (he : e.1 ≤ x) (hm : ∀ q, q < x → m.1 q = m0.1 q) (hl : l0 < x) (P : PAIR e x m0 C S0 YB 148 302 [] (ks1 1) m) : TRN e x l0 m0 C S0 YB i 61 m := by
  rcases P with ⟨v, m1, hC, oL, hR⟩ | ⟨E, m1, B, m3, k1, k3, hC, low, g, T, Z⟩
  · obtain ⟨m2, s1, s2, s3, s4, s5⟩ := sL_o (e := e) (by omega) oL (v := v.toInt64)
    obtain ⟨low2, m3, g, T, q, Z⟩ := hR m2 s3 s4 s5
    have q' := (aL_m (k := 1) (i := Int32.ofNat 0) q).trans s2
    refine ⟨m3, Z, fun t => ⟨t + 5, by omega, ?_⟩⟩
    rw [q365_61]
    rw [w362_0 hC s1, kI_r]
    rw [g, kI_r, t164 T, kI_r, if_pos rfl, q365_188, if_pos rfl, q', bd_s]
    rw [if_pos (lg_e _), q365_189]
  · have hE := ks1_c k1
    subst hE
    have T' : THR x 1 m3 := T
    refine ⟨m3, Z, fun t => ⟨t + 5, by omega, ?_⟩⟩
    rw [q365_61]
    rw [w362_e1 hC, kI_r]
    rw [g, kI_r, t164 T', kI_r, if_pos rfl, q365_188, if_neg (by decide +kernel), q365_189]
theorem trn62 (hm : ∀ q, q < x → m.1 q = m0.1 q) (hl : l0 < x) (P : PAIRD e x m0 C S0 YB 149 303 [] m) : TRN e x l0 m0 C S0 YB i 62 m := by
  obtain ⟨v, m1, m3, hC, low, g, Z⟩ := P
  refine ⟨m3, Z, fun t => ⟨t + 7, by omega, ?_⟩⟩
  rw [q365_62]
  rw [hC, kI_r]
  rw [g, kI_r, if_pos rfl]
theorem trn63 (he : e.1 ≤ x) (hm : ∀ q, q < x → m.1 q = m0.1 q) (hl : l0 < x) {y1 : Int32} (a1 : aI m0 0 l0 (i + Int32.ofNat 1) = some y1) (P : PAIR e x m0 C S0 YB 150 304 [.int y1] (ks2 1 2) m) : TRN e x l0 m0 C S0 YB i 63 m := by
  have r1 : ∀ m' : dMem, (∀ q, q < x → m'.1 q = m0.1 q) → aI m' 0 l0 (i + Int32.ofNat 1) = some y1 := fun m' h => (aI_m (h l0 hl)).trans a1
  rcases P with ⟨v, m1, hC, oL, hR⟩ | ⟨E, m1, B, m3, k1, k3, hC, low, g, T, Z⟩
  · obtain ⟨m2, s1, s2, s3, s4, s5⟩ := sL_o (e := e) (by omega) oL (v := v.toInt64)
    obtain ⟨low2, m3, g, T, q, Z⟩ := hR m2 s3 s4 s5
    have q' := (aL_m (k := 1) (i := Int32.ofNat 0) q).trans s2
    refine ⟨m3, Z, fun t => ⟨t + 5, by omega, ?_⟩⟩
    rw [q365_63]
    rw [r1 m hm]
    (try simp only [bd_s])
    rw [w363_0 hC s1, kI_r]
    rw [r1 m2 low2]
    (try simp only [bd_s])
    rw [g, kI_r, t164 T, kI_r, if_pos rfl, q365_190, if_pos rfl, q', bd_s]
    rw [if_pos (lg_e _), q365_191]
  · rcases ks2_c k1 with rfl | rfl
    · have T' : THR x 1 m3 := T
      refine ⟨m3, Z, fun t => ⟨t + 5, by omega, ?_⟩⟩
      rw [q365_63]
      rw [r1 m hm]
      (try simp only [bd_s])
      rw [w363_e1 hC, kI_r]
      rw [r1 m1 low]
      (try simp only [bd_s])
      rw [g, kI_r, t164 T', kI_r, if_pos rfl, q365_190, if_neg (by decide +kernel), q365_191]
    · have T' : THR x 2 m3 := T
      refine ⟨m3, Z, fun t => ⟨t + 5, by omega, ?_⟩⟩
      rw [q365_63]
      rw [r1 m hm]
      (try simp only [bd_s])
      rw [w363_e2 hC, kI_r]
      rw [r1 m1 low]
      (try simp only [bd_s])
      rw [g, kI_r, t164 T', kI_r, if_pos rfl, q365_190, if_neg (by decide +kernel), q365_191]
theorem trn64 (he : e.1 ≤ x) (hm : ∀ q, q < x → m.1 q = m0.1 q) (hl : l0 < x) {y1 : Int32} (a1 : aI m0 0 l0 (i + Int32.ofNat 1) = some y1) (P : PAIR e x m0 C S0 YB 151 305 [.int y1] (ks2 2 1) m) : TRN e x l0 m0 C S0 YB i 64 m := by
  have r1 : ∀ m' : dMem, (∀ q, q < x → m'.1 q = m0.1 q) → aI m' 0 l0 (i + Int32.ofNat 1) = some y1 := fun m' h => (aI_m (h l0 hl)).trans a1
  rcases P with ⟨v, m1, hC, oL, hR⟩ | ⟨E, m1, B, m3, k1, k3, hC, low, g, T, Z⟩
  · obtain ⟨m2, s1, s2, s3, s4, s5⟩ := sL_o (e := e) (by omega) oL (v := v.toInt64)
    obtain ⟨low2, m3, g, T, q, Z⟩ := hR m2 s3 s4 s5
    have q' := (aL_m (k := 1) (i := Int32.ofNat 0) q).trans s2
    refine ⟨m3, Z, fun t => ⟨t + 5, by omega, ?_⟩⟩
    rw [q365_64]
    rw [r1 m hm]
    (try simp only [bd_s])
    rw [w364_0 hC s1, kI_r]
    rw [r1 m2 low2]
    (try simp only [bd_s])
    rw [g, kI_r, t164 T, kI_r, if_pos rfl, q365_192, if_pos rfl, q', bd_s]
    rw [if_pos (lg_e _), q365_193]
  · rcases ks2_c k1 with rfl | rfl
    · have T' : THR x 1 m3 := T
      refine ⟨m3, Z, fun t => ⟨t + 5, by omega, ?_⟩⟩
      rw [q365_64]
      rw [r1 m hm]
      (try simp only [bd_s])
      rw [w364_e2 hC, kI_r]
      rw [r1 m1 low]
      (try simp only [bd_s])
      rw [g, kI_r, t164 T', kI_r, if_pos rfl, q365_192, if_neg (by decide +kernel), q365_193]
    · have T' : THR x 2 m3 := T
      refine ⟨m3, Z, fun t => ⟨t + 5, by omega, ?_⟩⟩
      rw [q365_64]
      rw [r1 m hm]
      (try simp only [bd_s])
      rw [w364_e1 hC, kI_r]
      rw [r1 m1 low]
      (try simp only [bd_s])
      rw [g, kI_r, t164 T', kI_r, if_pos rfl, q365_192, if_neg (by decide +kernel), q365_193]
end
end

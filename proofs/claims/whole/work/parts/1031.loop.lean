/-! ===== the law's loop (printed by wip/whole/lp.py) ===== -/
noncomputable section
theorem and64 (y : Int32) : y &&& Int32.ofNat 63 = Int32.ofNat (y.toBitVec.toNat % 64) := by
  apply Int32.toBitVec_inj.mp
  apply BitVec.eq_of_toNat_eq
  rw [Int32.toBitVec_and, BitVec.toNat_and]
  have h1 : (Int32.ofNat 63).toBitVec.toNat = 2 ^ 6 - 1 := by decide +kernel
  have h2 : (Int32.ofNat (y.toBitVec.toNat % 64)).toBitVec.toNat = y.toBitVec.toNat % 64 := by
    show (BitVec.ofNat 32 (y.toBitVec.toNat % 64)).toNat = _
    rw [BitVec.toNat_ofNat]
    exact Nat.mod_eq_of_lt (by have := Nat.mod_lt y.toBitVec.toNat (show 0 < 64 by omega); omega)
  rw [h1, h2, Nat.and_two_pow_sub_one_eq_mod]
theorem m6 : ∀ N, N < 6 → (Int32.ofNat N - Int32.ofNat 6).toInt < 0 := by decide +kernel
theorem lt6 {N i : Nat} (hN : N ≤ 10000) (hi : i ≤ 20000) : (Int32.ofNat N - Int32.ofNat 6 < Int32.ofNat i) = (N < i + 6) := by
  by_cases q : N < 6
  · refine propext ⟨fun _ => by omega, fun _ => ?_⟩
    rw [Int32.lt_iff_toInt_lt, nToI (by omega)]
    have := m6 N q
    omega
  · rw [nSub (by omega), nLt (by omega) (by omega)]
    exact propext ⟨fun _ => by omega, fun _ => by omega⟩
section
variable {e : dEnv} {x l0 C S0 YB N i : Nat} {m0 m : dMem} {f : Nat → Int32}
theorem rdS (sc : m0.1 l0 = some (.inl (0, N, .inl f))) (hN : N ≤ 10000) {j : Nat} (hj : i + j < N) : aI m0 0 l0 (Int32.ofNat i + Int32.ofNat j) = some (f (i + j)) := by
  unfold aI
  rw [sc, nAdd]
  have h1 : (Int32.ofNat (i + j)).toInt = ((i + j : Nat) : Int) := nToI (by omega)
  simp only [h1]
  rw [if_pos ⟨trivial, by omega, by omega⟩]
  rfl
theorem turn_all (he : e.1 ≤ x) (hl : l0 < x) (sc : m0.1 l0 = some (.inl (0, N, .inl f))) (hN : N ≤ 10000) (D0 : hDig e x m0) (St0 : hSt e x m0) (hi : i + 6 ≤ N) (h3 : 3000 ≤ YB) (hYB : YB ≤ 900000) (Zx : RELX x m0 C S0 YB m) : ∀ k, k < 64 → TRN e x l0 m0 C S0 YB (Int32.ofNat i) (1 + k) m := by
  obtain ⟨R, I, H, S, Ar, M, l, Z⟩ := Zx
  have hm := Z.1
  have a1 := rdS (i := i) (j := 1) sc hN (by omega)
  have a2 := rdS (i := i) (j := 2) sc hN (by omega)
  have a3 := rdS (i := i) (j := 3) sc hN (by omega)
  have a4 := rdS (i := i) (j := 4) sc hN (by omega)
  have a5 := rdS (i := i) (j := 5) sc hN (by omega)
  intro k hk
  by_cases q1 : k = 0
  · subst q1
    exact trn1 hm hl a1 a2 a3 a4 a5 (pd1 he Z)
  by_cases q2 : k = 1
  · subst q2
    exact trn2 he hm hl a1 (pr2 he Z St0 h3)
  by_cases q3 : k = 2
  · subst q3
    exact trn3 hm hl (pd3 he Z)
  by_cases q4 : k = 3
  · subst q4
    exact trn4 hm hl (pd4 he Z)
  by_cases q5 : k = 4
  · subst q5
    exact trn5 hm hl (pd5 he Z)
  by_cases q6 : k = 5
  · subst q6
    exact trn6 he hm hl (p6 he Z)
  by_cases q7 : k = 6
  · subst q7
    exact trn7 he hm hl (p7 he Z)
  by_cases q8 : k = 7
  · subst q8
    exact trn8 he hm hl (p8 he Z)
  by_cases q9 : k = 8
  · subst q9
    exact trn9 he hm hl (p9 he Z)
  by_cases q10 : k = 9
  · subst q10
    exact trn10 he hm hl (p10 he Z)
  by_cases q11 : k = 10
  · subst q11
    exact trn11 he hm hl (p11 he Z)
  by_cases q12 : k = 11
  · subst q12
    exact trn12 he hm hl (p12 he Z)
  by_cases q13 : k = 12
  · subst q13
    exact trn13 he hm hl (p13 he Z)
  by_cases q14 : k = 13
  · subst q14
    exact trn14 he hm hl a1 a2 (p14 he Z)
  by_cases q15 : k = 14
  · subst q15
    exact trn15 he hm hl (p15 he Z)
  by_cases q16 : k = 15
  · subst q16
    exact trn16 he hm hl (p16 he Z)
  by_cases q17 : k = 16
  · subst q17
    exact trn17 he hm hl (p17 he Z)
  by_cases q18 : k = 17
  · subst q18
    exact trn18 he hm hl a1 a2 (p18 he Z)
  by_cases q19 : k = 18
  · subst q19
    exact trn19 he hm hl a1 (p19 he Z)
  by_cases q20 : k = 19
  · subst q20
    exact trn20 he hm hl a1 (p20 he Z)
  by_cases q21 : k = 20
  · subst q21
    exact trn21 he hm hl a1 (p21 he Z)
  by_cases q22 : k = 21
  · subst q22
    exact trn22 he hm hl a1 (p22 he Z)
  by_cases q23 : k = 22
  · subst q23
    exact trn23 he hm hl a1 (p23 he Z)
  by_cases q24 : k = 23
  · subst q24
    exact trn24 he hm hl a1 (p24 he Z)
  by_cases q25 : k = 24
  · subst q25
    exact trn25 he hm hl a1 (p25 he Z)
  by_cases q26 : k = 25
  · subst q26
    exact trn26 he hm hl a1 (p26 he Z)
  by_cases q27 : k = 26
  · subst q27
    exact trn27 he hm hl a1 (p27 he Z)
  by_cases q28 : k = 27
  · subst q28
    exact trn28 he hm hl a1 (p28 he Z)
  by_cases q29 : k = 28
  · subst q29
    exact trn29 he hm hl a1 (p29 he Z)
  by_cases q30 : k = 29
  · subst q30
    exact trn30 he hm hl a1 (p30 he Z)
  by_cases q31 : k = 30
  · subst q31
    exact trn31 he hm hl a1 (p31 he Z)
  by_cases q32 : k = 31
  · subst q32
    exact trn32 he hm hl a1 (p32 he Z)
  by_cases q33 : k = 32
  · subst q33
    exact trn33 he hm hl a1 (p33 he Z)
  by_cases q34 : k = 33
  · subst q34
    exact trn34 he hm hl (p34 he Z)
  by_cases q35 : k = 34
  · subst q35
    exact trn35 he hm hl a1 (p35 he Z)
  by_cases q36 : k = 35
  · subst q36
    exact trn36 he hm hl a1 a2 (p36 he Z)
  by_cases q37 : k = 36
  · subst q37
    exact trn37 he hm hl a1 (p37 he Z)
  by_cases q38 : k = 37
  · subst q38
    exact trn38 he hm hl a1 (p38 he Z)
  by_cases q39 : k = 38
  · subst q39
    exact trn39 he hm hl a1 a2 (p39 he Z)
  by_cases q40 : k = 39
  · subst q40
    exact trn40 he hm hl a1 (p40 he Z)
  by_cases q41 : k = 40
  · subst q41
    exact trn41 he hm hl a1 (p41 he Z)
  by_cases q42 : k = 41
  · subst q42
    exact trn42 he hm hl a1 (p42 he Z hYB)
  by_cases q43 : k = 42
  · subst q43
    exact trn43 he hm hl a1 (p43 he Z hYB)
  by_cases q44 : k = 43
  · subst q44
    exact trn44 he hm hl a1 (p44 he Z hYB)
  by_cases q45 : k = 44
  · subst q45
    exact trn45 he hm hl (p45 he Z)
  by_cases q46 : k = 45
  · subst q46
    exact trn46 he Z
  by_cases q47 : k = 46
  · subst q47
    exact trn47 he Z
  by_cases q48 : k = 47
  · subst q48
    exact trn48 he hm hl a1 (p48 he Z hYB D0)
  by_cases q49 : k = 48
  · subst q49
    exact trn49 he hm hl a1 (p49 he Z hYB)
  by_cases q50 : k = 49
  · subst q50
    exact trn50 he hm hl (p50 he Z hYB D0)
  by_cases q51 : k = 50
  · subst q51
    exact trn51 he hm hl a1 (p51 he Z hYB)
  by_cases q52 : k = 51
  · subst q52
    exact trn52 he hm hl a1 (pr52 he Z hYB)
  by_cases q53 : k = 52
  · subst q53
    exact trn53 he hm hl a1 a2 (pr53 he Z hYB)
  by_cases q54 : k = 53
  · subst q54
    exact trn54 he hm hl a1 a2 a3 (pr54 he Z)
  by_cases q55 : k = 54
  · subst q55
    exact trn55 he hm hl a1 a2 (pr55 he Z)
  by_cases q56 : k = 55
  · subst q56
    exact trn56 he hm hl a1 a2 (pr56 he Z)
  by_cases q57 : k = 56
  · subst q57
    exact trn57 he hm hl a1 (pr57 he Z)
  by_cases q58 : k = 57
  · subst q58
    exact trn58 he hm hl (pr58 he Z)
  by_cases q59 : k = 58
  · subst q59
    exact trn59 he hm hl a1 a2 (pr59 he Z hYB)
  by_cases q60 : k = 59
  · subst q60
    exact trn60 he hm hl (pr60 he Z)
  by_cases q61 : k = 60
  · subst q61
    exact trn61 he hm hl (pr61 he Z)
  by_cases q62 : k = 61
  · subst q62
    exact trn62 hm hl (pd62 he Z)
  by_cases q63 : k = 62
  · subst q63
    exact trn63 he hm hl a1 (pr63 he Z)
  by_cases q64 : k = 63
  · subst q64
    exact trn64 he hm hl a1 (pr64 he Z)
  omega
theorem law_loop (he : e.1 ≤ x) (hl : l0 < x) (sc : m0.1 l0 = some (.inl (0, N, .inl f))) (hN : N ≤ 10000) (D0 : hDig e x m0) (St0 : hSt e x m0) : ∀ (n i C S0 YB : Nat) (m : dMem) (t : Nat), N < i + 6 * n + 6 → i ≤ 10000 → 3000 ≤ YB → YB + 50 * n ≤ 900000 → 10 * n + 10 ≤ t → RELX x m0 C S0 YB m → ∃ mF, runL e (dN e 20) 365 t 65 [some (.ref l0), some (.ref x), some (.ref (x + 261)), some (.ref (x + 269)), some (.ref (x + 270)), some (.int (Int32.ofNat i)), none, none, none] [] m = rI (bI true) mF ∧ mF.2.1 ≤ C + 2 * n ∧ mF.2.2 ≤ S0 + 12 * n := by
  intro n
  induction n with
  | zero =>
    intro i C S0 YB m t h1 h2 h3 h4 ht Z
    obtain ⟨u, rfl⟩ : ∃ u, t = u + 2 := ⟨t - 2, by omega⟩
    obtain ⟨R, I, H, S, Ar, M, l, Z⟩ := Z
    have eN : aN m l0 = some (Int32.ofNat N) := by
      rw [aN_m (Z.1 l0 hl)]
      unfold aN
      rw [sc]
    obtain ⟨p, g, w, -, -, -, -, -, -, -, -, c1, c2⟩ := Z.2.2.1
    refine ⟨m, ?_, by omega, by omega⟩
    rw [q365_65, eN, bd_s, if_pos (by rw [lt6 hN (by omega)]; omega), q365_195, rZ_1]
  | succ n ih =>
    intro i C S0 YB m t h1 h2 h3 h4 ht Z
    obtain ⟨u, rfl⟩ : ∃ u, t = u + 9 := ⟨t - 9, by omega⟩
    have Zx := Z
    obtain ⟨R, I, H, S, Ar, M, l, Z⟩ := Z
    have eN : aN m l0 = some (Int32.ofNat N) := by
      rw [aN_m (Z.1 l0 hl)]
      unfold aN
      rw [sc]
    by_cases q : N < i + 6
    · obtain ⟨p, g, w, -, -, -, -, -, -, -, -, c1, c2⟩ := Z.2.2.1
      refine ⟨m, ?_, by omega, by omega⟩
      rw [q365_65, eN, bd_s, if_pos (by rw [lt6 hN (by omega)]; exact q), q365_195, rZ_1]
    · have r0 : aI m 0 l0 (Int32.ofNat i) = some (f (i + 0)) := by
        rw [aI_m (Z.1 l0 hl)]
        have := rdS (i := i) (j := 0) sc hN (by omega)
        rwa [nAdd] at this
      have h64 : (f (i + 0)).toBitVec.toNat % 64 < 64 := Nat.mod_lt _ (by omega)
      obtain ⟨m3, Z3, T⟩ := turn_all he hl sc hN D0 St0 (i := i) (by omega) h3 (by omega) Zx _ h64
      obtain ⟨w, hw, g⟩ := T u
      obtain ⟨v, rfl⟩ : ∃ v, w = v + 1 := ⟨w - 1, by omega⟩
      obtain ⟨mF, g2, c1, c2⟩ := ih (i + 6) (C + 2) (S0 + 12) (YB + 50) m3 v (by omega) (by omega) (by omega) (by omega) (by omega) Z3
      refine ⟨mF, ?_, by omega, by omega⟩
      have e1 : (Int32.ofNat ((f (i + 0)).toBitVec.toNat % 64)).toInt = (((f (i + 0)).toBitVec.toNat % 64 : Nat) : Int) := nToI (by omega)
      rw [q365_65, eN, bd_s, if_neg (by rw [lt6 hN (by omega)]; exact q), r0, bd_s, and64, e1, if_neg (by omega), show ((((f (i + 0)).toBitVec.toNat % 64 : Nat) : Int) - 0).toNat = (f (i + 0)).toBitVec.toNat % 64 by omega, g, q365_194, nAdd]
      exact g2
end
end

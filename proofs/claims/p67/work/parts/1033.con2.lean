/-! ===== the constructors (printed by wip/whole/kon.py) ===== -/
noncomputable section
section
variable {e : dEnv} {d : Nat} {m : dMem}
theorem k82 {b : Nat} (hb : m.2.1 = b + 1) (he : e.1 ≤ b) : ∃ m', dN e (d + 1) 82 [.ref (b + 1)] (nO m 7 (dNf 7) (dDef 7)) = some (.inl none, m') ∧ BLD (b + 1) 5 (fun i => bC TA b X0 (1 + i)) 37 m m' := by
  have B0 : BLD (b + 1) 1 (fun _ => .inr (7, dDef 7)) 5 m (nO m 7 (dNf 7) (dDef 7)) := BLD_O hb
  obtain ⟨m1, g1, B1⟩ := B0.np (e := e) (kd := 1) (len := 8) (k := 0) (by omega) rfl (by omega)
  obtain ⟨m2, g2, B2⟩ := B1.np (e := e) (kd := 0) (len := 8) (k := 1) (by omega) rfl (by omega)
  obtain ⟨m3, g3, B3⟩ := B2.np (e := e) (kd := 0) (len := 8) (k := 2) (by omega) rfl (by omega)
  obtain ⟨m4, g4, B4⟩ := B3.np (e := e) (kd := 4) (len := 8) (k := 3) (by omega) rfl (by omega)
  refine ⟨m4, ?_, B4.to fun i hi => ?_⟩
  · rw [dN_at (j := 82) (as := [.ref (b + 1)]) (m := nO m 7 (dNf 7) (dDef 7)) (ls := [some (.ref (b + 1))]) (B0.cc (by omega) rfl) rfl rfl rfl, dFu, q82_0, t8, if_pos (by decide +kernel), g1, bd_s, if_pos (by decide +kernel), g2, bd_s, if_pos (by decide +kernel), g3, bd_s, if_pos (by decide +kernel), g4, bd_s]
  · have h3 : i = 0 ∨ i = 1 ∨ i = 2 ∨ i = 3 ∨ i = 4 := by omega
    rcases h3 with rfl | rfl | rfl | rfl | rfl
    · refine congrArg (fun f => Sum.inr (7, f)) (funext fun k => ?_)
      match k with
      | 0 => rfl
      | 1 => rfl
      | 2 => rfl
      | 3 => rfl
      | k + 4 => rfl
    · rfl
    · rfl
    · rfl
    · rfl
theorem k0_all {b : Nat} (hb : m.2.1 = b) (he : e.1 ≤ b) : ∃ m', dN e (d + 2) 0 [.ref b] (nO m 2 (dNf 2) (dDef 2)) = some (.inl none, m') ∧ BLD b 19 (fun i => bC TA b X0 i) 357 m m' := by
  have B0 : BLD b 1 (fun _ => .inr (2, dDef 2)) 17 m (nO m 2 (dNf 2) (dDef 2)) := BLD_O hb
  have e0 : (nO m 2 (dNf 2) (dDef 2)).2.1 = b + 1 := by rw [B0.2.2]
  obtain ⟨m1, g1, C1⟩ := k82 (e := e) (d := d) e0 he
  have B1 := B0.then C1
  obtain ⟨m2, g2, B2⟩ := B1.pr (e := e) (k := 0) (q := b + 1) (by omega) rfl (by omega)
  have e2 : m2.2.1 = b + 6 := by rw [B2.2.2]
  obtain ⟨m3, g3, C3⟩ := k79 (e := e) (d := d) e2 he
  have B3 := B2.then C3
  obtain ⟨m4, g4, B4⟩ := B3.pr (e := e) (k := 1) (q := b + 6) (by omega) rfl (by omega)
  obtain ⟨m5, g5, B5⟩ := B4.np (e := e) (kd := 0) (len := 24) (k := 2) (by omega) rfl (by omega)
  obtain ⟨m6, g6, B6⟩ := B5.np (e := e) (kd := 0) (len := 24) (k := 3) (by omega) rfl (by omega)
  obtain ⟨m7, g7, B7⟩ := B6.np (e := e) (kd := 0) (len := 24) (k := 4) (by omega) rfl (by omega)
  obtain ⟨m8, g8, B8⟩ := B7.np (e := e) (kd := 0) (len := 24) (k := 5) (by omega) rfl (by omega)
  obtain ⟨m9, g9, B9⟩ := B8.np (e := e) (kd := 0) (len := 24) (k := 6) (by omega) rfl (by omega)
  obtain ⟨m10, g10, B10⟩ := B9.np (e := e) (kd := 0) (len := 24) (k := 7) (by omega) rfl (by omega)
  obtain ⟨m11, g11, B11⟩ := B10.np (e := e) (kd := 0) (len := 24) (k := 8) (by omega) rfl (by omega)
  obtain ⟨m12, g12, B12⟩ := B11.np (e := e) (kd := 0) (len := 24) (k := 9) (by omega) rfl (by omega)
  obtain ⟨m13, g13, B13⟩ := B12.np (e := e) (kd := 0) (len := 72) (k := 10) (by omega) rfl (by omega)
  obtain ⟨m14, g14, B14⟩ := B13.np (e := e) (kd := 0) (len := 24) (k := 11) (by omega) rfl (by omega)
  refine ⟨m14, ?_, B14.to fun i hi => ?_⟩
  · rw [dN_at (j := 0) (as := [.ref b]) (m := nO m 2 (dNf 2) (dDef 2)) (ls := [some (.ref b)]) (B0.cc (by omega) rfl) rfl rfl rfl, dFu, q0_0, e0, g1, kV_r, g2, bd_s, e2, g3, kV_r, g4, bd_s, t24, t72, if_pos (by decide +kernel), g5, bd_s, if_pos (by decide +kernel), g6, bd_s, if_pos (by decide +kernel), g7, bd_s, if_pos (by decide +kernel), g8, bd_s, if_pos (by decide +kernel), g9, bd_s, if_pos (by decide +kernel), g10, bd_s, if_pos (by decide +kernel), g11, bd_s, if_pos (by decide +kernel), g12, bd_s, if_pos (by decide +kernel), g13, bd_s, if_pos (by decide +kernel), g14, bd_s]
  · have h3 : i = 0 ∨ i = 1 ∨ i = 2 ∨ i = 3 ∨ i = 4 ∨ i = 5 ∨ i = 6 ∨ i = 7 ∨ i = 8 ∨ i = 9 ∨ i = 10 ∨ i = 11 ∨ i = 12 ∨ i = 13 ∨ i = 14 ∨ i = 15 ∨ i = 16 ∨ i = 17 ∨ i = 18 := by omega
    rcases h3 with rfl | rfl | rfl | rfl | rfl | rfl | rfl | rfl | rfl | rfl | rfl | rfl | rfl | rfl | rfl | rfl | rfl | rfl | rfl
    · refine congrArg (fun f => Sum.inr (2, f)) (funext fun k => ?_)
      match k with
      | 0 => rfl
      | 1 => rfl
      | 2 => rfl
      | 3 => rfl
      | 4 => rfl
      | 5 => rfl
      | 6 => rfl
      | 7 => rfl
      | 8 => rfl
      | 9 => rfl
      | 10 => rfl
      | 11 => rfl
      | 12 => rfl
      | 13 => rfl
      | 14 => rfl
      | 15 => rfl
      | k + 16 => rfl
    · rfl
    · rfl
    · rfl
    · rfl
    · rfl
    · rfl
    · rfl
    · rfl
    · rfl
    · rfl
    · rfl
    · rfl
    · rfl
    · rfl
    · rfl
    · rfl
    · rfl
    · rfl
theorem k47 {b : Nat} (hb : m.2.1 = b + 1) (he : e.1 ≤ b) {X : bX} (hX : X.1 1 = X0.1 1 ∧ X.1 2 = X0.1 2 ∧ X.1 3 = X0.1 3 ∧ X.1 4 = X0.1 4 ∧ X.1 5 = X0.1 5) : ∃ m', dN e (d + 1) 47 [.ref (b + 1)] (nO m 4 (dNf 4) (dDef 4)) = some (.inl none, m') ∧ BLD (b + 1) 5 (fun i => bC TI b X (1 + i)) 2410 m m' := by
  have B0 : BLD (b + 1) 1 (fun _ => .inr (4, dDef 4)) 7 m (nO m 4 (dNf 4) (dDef 4)) := BLD_O hb
  obtain ⟨m1, g1, B1⟩ := B0.np (e := e) (kd := 3) (len := 600) (k := 0) (by omega) rfl (by omega)
  obtain ⟨m2, g2, B2⟩ := B1.np (e := e) (kd := 0) (len := 601) (k := 2) (by omega) rfl (by omega)
  obtain ⟨m3, g3, B3⟩ := B2.np (e := e) (kd := 0) (len := 601) (k := 3) (by omega) rfl (by omega)
  obtain ⟨m4, g4, B4⟩ := B3.np (e := e) (kd := 0) (len := 601) (k := 4) (by omega) rfl (by omega)
  obtain ⟨X1, X2⟩ := X
  obtain ⟨x1, x2, x3, x4, x5⟩ := hX
  refine ⟨m4, ?_, B4.to fun i hi => ?_⟩
  · rw [dN_at (j := 47) (as := [.ref (b + 1)]) (m := nO m 4 (dNf 4) (dDef 4)) (ls := [some (.ref (b + 1))]) (B0.cc (by omega) rfl) rfl rfl rfl, dFu, q47_0, t600, t601, if_pos (by decide +kernel), g1, bd_s, if_pos (by decide +kernel), g2, bd_s, if_pos (by decide +kernel), g3, bd_s, if_pos (by decide +kernel), g4, bd_s]
  · have h3 : i = 0 ∨ i = 1 ∨ i = 2 ∨ i = 3 ∨ i = 4 := by omega
    rcases h3 with rfl | rfl | rfl | rfl | rfl
    · refine congrArg (fun f => Sum.inr (4, f)) (funext fun k => ?_)
      have x1' : ∀ k, X1 1 k = Int32.ofNat 0 := fun k => congrFun x1 k
      match k with
      | 0 => rfl
      | 1 => exact congrArg Value.int (x1' 1).symm
      | 2 => rfl
      | 3 => rfl
      | 4 => rfl
      | 5 => exact congrArg Value.int (x1' 5).symm
      | k + 6 => exact congrArg Value.int (x1' (k + 6)).symm
    · exact congrArg (fun f => (Sum.inl (3, 600, Sum.inl f) : dObj)) x2.symm
    · exact congrArg (fun f => (Sum.inl (0, 601, Sum.inl f) : dObj)) x3.symm
    · exact congrArg (fun f => (Sum.inl (0, 601, Sum.inl f) : dObj)) x4.symm
    · exact congrArg (fun f => (Sum.inl (0, 601, Sum.inl f) : dObj)) x5.symm
end
end

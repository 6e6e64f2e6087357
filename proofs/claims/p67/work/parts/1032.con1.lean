/-! ===== what the constructors build ===== -/
noncomputable section
/-- from the place a on n new cells lie; below nothing changes -/
def BLD (a n : Nat) (g : Nat → dObj) (s : Nat) (m m' : dMem) : Prop := (∀ i, i < n → m'.1 (a + i) = some (g i)) ∧ (∀ q, q < a → m'.1 q = m.1 q) ∧ m'.2 = (a + n, m.2.2 + s)
def X0 : bX := (fun _ _ => Int32.ofNat 0, fun _ _ => 0)
section
variable {e : dEnv} {d a n s c : Nat} {g h : Nat → dObj} {F : Nat → Value} {m m1 m2 : dMem}
theorem BLD.to (Z : BLD a n g s m m1) (hh : ∀ i, i < n → g i = h i) : BLD a n h s m m1 := ⟨fun i hi => by rw [Z.1 i hi, hh i hi], Z.2.1, Z.2.2⟩
theorem BLD.cc (Z : BLD a n g s m m1) (hn : 0 < n) (h0 : g 0 = .inr (c, F)) : isC m1 a c = true := by
  have z := Z.1 0 hn
  rw [Nat.add_zero] at z
  unfold isC
  rw [z, h0]
  exact Nat.beq_refl c
theorem BLD_O (ha : m.2.1 = a) : BLD a 1 (fun _ => .inr (c, F)) n m (nO m c n F) := by
  subst ha
  refine ⟨fun i hi => ?_, fun q hq => ?_, rfl⟩
  · have : i = 0 := by omega
    subst this
    exact if_pos rfl
  · exact if_neg (by omega)
theorem dUp_s {o : dObj} : (dUp m a o).1 a = some o := if_pos rfl
theorem dUp_n {o : dObj} {q : Nat} (h : q ≠ a) : (dUp m a o).1 q = m.1 q := if_neg h
theorem nA_n {kd len q : Nat} (h : q ≠ m.2.1) : (nA m kd len).1 q = m.1 q := if_neg h
theorem nA_s {kd len : Nat} : (nA m kd len).1 m.2.1 = some (.inl (kd, len, dDf kd)) := if_pos rfl
/-- a field's write -/
theorem BLD.pv {k : Nat} {v : Value} (Z : BLD a n g s m m1) (hn : 0 < n) (h0 : g 0 = .inr (c, F)) (he : e.1 ≤ a) : ∃ m2, pV e m1 a c k v = some m2 ∧ BLD a n (fun j => if j = 0 then .inr (c, fun t => if t = k then v else F t) else g j) s m m2 := by
  obtain ⟨z1, z2, z3⟩ := Z
  have z0 := z1 0 hn
  rw [Nat.add_zero, h0] at z0
  refine ⟨dUp m1 a (.inr (c, fun t => if t = k then v else F t)), ?_, fun i hi => ?_, fun q hq => ?_, z3⟩
  · unfold pV
    rw [z0]
    exact if_pos ⟨rfl, he⟩
  · by_cases q2 : i = 0
    · subst q2
      exact dUp_s
    · show _ = some (if i = 0 then _ else g i)
      rw [if_neg q2, ← z1 i (by omega)]
      exact dUp_n (by omega)
  · rw [← z2 q hq]
    exact dUp_n (by omega)
theorem BLD.pr {k q : Nat} (Z : BLD a n g s m m1) (hn : 0 < n) (h0 : g 0 = .inr (c, F)) (he : e.1 ≤ a) : ∃ m2, pR e m1 a c k q = some m2 ∧ BLD a n (fun j => if j = 0 then .inr (c, fun t => if t = k then .ref q else F t) else g j) s m m2 := Z.pv hn h0 he
theorem BLD.pi {k : Nat} {v : Int32} (Z : BLD a n g s m m1) (hn : 0 < n) (h0 : g 0 = .inr (c, F)) (he : e.1 ≤ a) : ∃ m2, pI e m1 a c k v = some m2 ∧ BLD a n (fun j => if j = 0 then .inr (c, fun t => if t = k then .int v else F t) else g j) s m m2 := Z.pv hn h0 he
/-- a new array -/
theorem BLD.na {kd len : Nat} (Z : BLD a n g s m m1) : BLD a (n + 1) (fun j => if j = n then .inl (kd, len, dDf kd) else g j) (s + len) m (nA m1 kd len) := by
  obtain ⟨z1, z2, z3⟩ := Z
  have e1 : m1.2.1 = a + n := by rw [z3]
  refine ⟨fun i hi => ?_, fun q hq => ?_, ?_⟩
  · by_cases q1 : i = n
    · subst q1
      show _ = some (if i = i then _ else g i)
      rw [if_pos rfl, ← e1]
      exact nA_s
    · show _ = some (if i = n then _ else g i)
      rw [if_neg q1, ← z1 i (by omega)]
      exact nA_n (by omega)
  · rw [← z2 q hq]
    exact nA_n (by omega)
  · show (m1.2.1 + 1, m1.2.2 + len) = (a + (n + 1), m.2.2 + (s + len))
    rw [z3]
    show (a + n + 1, m.2.2 + s + len) = (a + (n + 1), m.2.2 + (s + len))
    rw [Nat.add_assoc, Nat.add_assoc]
/-- a new array into a field -/
theorem BLD.np {kd len k : Nat} (Z : BLD a n g s m m1) (hn : 0 < n) (h0 : g 0 = .inr (c, F)) (he : e.1 ≤ a) : ∃ m2, pR e (nA m1 kd len) a c k m1.2.1 = some m2 ∧ BLD a (n + 1) (fun j => if j = 0 then .inr (c, fun t => if t = k then .ref (a + n) else F t) else if j = n then .inl (kd, len, dDf kd) else g j) (s + len) m m2 := by
  have e1 : m1.2.1 = a + n := by rw [Z.2.2]
  rw [e1]
  exact (Z.na (kd := kd) (len := len)).pr (by omega) (by show (if 0 = n then _ else g 0) = _; rw [if_neg (by omega)]; exact h0) he
/-- a block behind -/
theorem BLD.then {n2 s2 : Nat} (Z : BLD a n g s m m1) (Z2 : BLD (a + n) n2 h s2 m1 m2) : BLD a (n + n2) (fun i => if i < n then g i else h (i - n)) (s + s2) m m2 := by
  obtain ⟨z1, z2, z3⟩ := Z
  obtain ⟨y1, y2, y3⟩ := Z2
  refine ⟨fun i hi => ?_, fun q hq => (y2 q (by omega)).trans (z2 q hq), ?_⟩
  · show _ = some (if i < n then g i else h (i - n))
    by_cases q : i < n
    · rw [if_pos q, y2 _ (by omega), z1 i q]
    · rw [if_neg q, show a + i = a + n + (i - n) by omega, y1 _ (by omega)]
  · rw [y3, z3]
    show (a + n + n2, m.2.2 + s + s2) = (a + (n + n2), m.2.2 + (s + s2))
    rw [Nat.add_assoc, Nat.add_assoc]
theorem t8 : (Int32.ofNat 8).toInt.toNat = 8 := by decide +kernel
theorem t6 : (Int32.ofNat 6).toInt.toNat = 6 := by decide +kernel
theorem t24 : (Int32.ofNat 24).toInt.toNat = 24 := by decide +kernel
theorem t72 : (Int32.ofNat 72).toInt.toNat = 72 := by decide +kernel
theorem t600 : (Int32.ofNat 600).toInt.toNat = 600 := by decide +kernel
theorem t601 : (Int32.ofNat 601).toInt.toNat = 601 := by decide +kernel
theorem t118 : (Int32.ofNat 118).toInt.toNat = 118 := by decide +kernel
theorem t315 : (Int32.ofNat 315).toInt.toNat = 315 := by decide +kernel
theorem t3465 : (Int32.ofNat 3465).toInt.toNat = 3465 := by decide +kernel
theorem t400 : (Int32.ofNat 400).toInt.toNat = 400 := by decide +kernel
theorem t2 : (Int32.ofNat 2).toInt.toNat = 2 := by decide +kernel
theorem t1 : (Int32.ofNat 1).toInt.toNat = 1 := by decide +kernel
theorem i24 : (0 ≤ (Int32.ofNat 24).toInt ∧ (Int32.ofNat 24).toInt ≤ 100000) := by decide +kernel
/-- the reader's rows -/
theorem k79 {b : Nat} (hb : m.2.1 = b + 6) (he : e.1 ≤ b) : ∃ m', dN e (d + 1) 79 [.ref (b + 6)] (nO m 6 (dNf 6) (dDef 6)) = some (.inl none, m') ∧ BLD (b + 6) 3 (fun i => bC TA b X0 (6 + i)) 15 m m' := by
  have B0 : BLD (b + 6) 1 (fun _ => .inr (6, dDef 6)) 3 m (nO m 6 (dNf 6) (dDef 6)) := BLD_O hb
  obtain ⟨m1, g1, B1⟩ := B0.np (e := e) (kd := 1) (len := 6) (k := 0) (by omega) rfl (by omega)
  obtain ⟨m2, g2, B2⟩ := B1.np (e := e) (kd := 0) (len := 6) (k := 1) (by omega) rfl (by omega)
  refine ⟨m2, ?_, B2.to fun i hi => ?_⟩
  · rw [dN_at (j := 79) (as := [.ref (b + 6)]) (m := nO m 6 (dNf 6) (dDef 6)) (ls := [some (.ref (b + 6))]) (B0.cc (by omega) rfl) rfl rfl rfl, dFu, q79_0, t6, if_pos (by decide +kernel), g1, bd_s, if_pos (by decide +kernel), g2, bd_s]
  · have h3 : i = 0 ∨ i = 1 ∨ i = 2 := by omega
    rcases h3 with rfl | rfl | rfl
    · refine congrArg (fun f => Sum.inr (6, f)) (funext fun k => ?_)
      match k with
      | 0 => rfl
      | 1 => rfl
      | k + 2 => rfl
    · rfl
    · rfl
end
end

/-! ===== the text as a list of letters: room, a letter, length, cleared, a letter read ===== -/
noncomputable section
/-- capacities: from 16 letters on; from 24 on (10, 11 ..) -/
def gL : Nat → Nat
  | 0 => 16
  | 1 => 34
  | 2 => 70
  | 3 => 142
  | 10 => 24
  | 11 => 50
  | 12 => 102
  | 13 => 206
  | 14 => 414
  | 15 => 830
  | _ => 286
def gQ : Nat → Nat
  | 0 => 532
  | 1 => 498
  | 2 => 428
  | 3 => 286
  | 10 => 1602
  | 11 => 1552
  | 12 => 1450
  | 13 => 1244
  | 14 => 830
  | _ => 0
/-- the last of a chain; its letters -/
def gT (g : Nat) : Nat := if g < 10 then 4 else 15
def gM (k : Nat) : Nat := if k = 0 then 286 else 830
def gK (k g : Nat) : Prop := k = 0 ∧ g ≤ 4 ∨ k = 10 ∧ 10 ≤ g ∧ g ≤ 15
theorem gK_c {k g : Nat} (h : gK k g) : k = 0 ∧ (g = 0 ∨ g = 1 ∨ g = 2 ∨ g = 3 ∨ g = 4) ∨ k = 10 ∧ (g = 10 ∨ g = 11 ∨ g = 12 ∨ g = 13 ∨ g = 14 ∨ g = 15) := by
  unfold gK at h
  omega
theorem gL_s {k g : Nat} (h : gK k g) (h2 : g < gT g) : gL (g + 1) = gL g + (gL g + 2) ∧ gQ g = gQ (g + 1) + (gL g + (gL g + 2)) ∧ gK k (g + 1) ∧ gT (g + 1) = gT g := by
  rcases gK_c h with ⟨hk, z | z | z | z | z⟩ | ⟨hk, z | z | z | z | z | z⟩ <;> subst z <;> first | exact ⟨rfl, rfl, by unfold gK; omega, rfl⟩ | exact absurd h2 (by decide)
theorem gL_b {k g : Nat} (h : gK k g) : 16 ≤ gL g ∧ gL g ≤ 830 ∧ (g = gT g → gL g = gM k) ∧ g ≤ gT g ∧ 286 ≤ gM k := by
  rcases gK_c h with ⟨hk, z | z | z | z | z⟩ | ⟨hk, z | z | z | z | z | z⟩ <;> subst z <;> subst hk <;> exact ⟨by decide, by decide, fun q => by first | rfl | exact absurd q (by decide), by decide, by decide⟩
theorem gM_b {k g : Nat} (h : gK k g) : 286 ≤ gM k ∧ gM k ≤ 830 := by
  rcases gK_c h with ⟨hk, -⟩ | ⟨hk, -⟩ <;> subst hk <;> exact ⟨by decide, by decide⟩
/-- what a text may not touch; its chain of capacities -/
abbrev xB : Type := (Nat → Prop) × Nat
/-- the text l of the object at a; its array lies at p, outside of b.1; C and S bound the memory, what may still be made for it included -/
def hXp (a : Nat) (b : xB) (C S : Nat) (l : List Nat) (p g : Nat) (w : Nat → Int32) (m : dMem) : Prop := hT a m p (gL g) l.length w ∧ (∀ i, i < l.length → w i = Int32.ofNat (l.getD i 0)) ∧ (∀ v, v ∈ l → v < 128) ∧ (¬ b.1 a ∧ ¬ b.1 p) ∧ p < m.2.1 ∧ (∀ q, q < a → b.1 q) ∧ (a < m.2.1 ∧ ∀ q, b.1 q → q < m.2.1) ∧ gK b.2 g ∧ m.2.1 + (gT g - g) ≤ C ∧ m.2.2 + gQ g ≤ S
def hX (a : Nat) (b : xB) (C S : Nat) (l : List Nat) (m : dMem) : Prop := ∃ p g w, hXp a b C S l p g w m
/-- what is not to be touched is as it was -/
def frX (a : Nat) (b : xB) (m m2 : dMem) : Prop := ∀ q, b.1 q → m2.1 q = m.1 q
theorem frX.rf {a : Nat} {b : xB} {m : dMem} : frX a b m m := fun _ _ => rfl
theorem frX.tr {a : Nat} {b : xB} {m m1 m2 : dMem} (h1 : frX a b m m1) (h2 : frX a b m1 m2) : frX a b m m2 := fun q x => (h2 q x).trans (h1 q x)
theorem hXp.le {a : Nat} {b : xB} {C S : Nat} {l : List Nat} {p g : Nat} {w : Nat → Int32} {m : dMem} (Z : hXp a b C S l p g w m) : a ≤ p := by
  rcases Nat.lt_or_ge p a with h | h
  · exact absurd (Z.2.2.2.2.2.1 p h) Z.2.2.2.1.2
  · exact h
theorem gd_app {l : List Nat} {v i : Nat} (hi : i < l.length) : (l ++ [v]).getD i 0 = l.getD i 0 := by
  rw [List.getD_eq_getElem?_getD, List.getD_eq_getElem?_getD, List.getElem?_append_left hi]
theorem gd_app2 {l k : List Nat} {i : Nat} (hi : i < l.length) : (l ++ k).getD i 0 = l.getD i 0 := by
  rw [List.getD_eq_getElem?_getD, List.getD_eq_getElem?_getD, List.getElem?_append_left hi]
theorem gd_last {l : List Nat} {v : Nat} : (l ++ [v]).getD l.length 0 = v := by
  rw [List.getD_eq_getElem?_getD, List.getElem?_append_right (Nat.le_refl _), Nat.sub_self]
  rfl
theorem dF_app {l : List Nat} {v : Nat} {w : Nat → Int32} (h : ∀ i, i < l.length → w i = Int32.ofNat (l.getD i 0)) : ∀ i, i < (l ++ [v]).length → dFun w l.length (Int32.ofNat v) i = Int32.ofNat ((l ++ [v]).getD i 0) := by
  intro i hi
  rw [List.length_append] at hi
  have hi2 : i < l.length + 1 := hi
  unfold dFun
  by_cases q : i = l.length
  · rw [if_pos q, q, gd_last]
  · rw [if_neg q, gd_app (by omega), h i (by omega)]
theorem hT_c {a p L c : Nat} {w : Nat → Int32} {m : dMem} (Z : hT a m p L c w) : c ≤ L ∧ L < 100000 ∧ p ≠ a ∧ m.1 p = some (.inl (3, L, .inl w)) := by
  obtain ⟨F, z, z0, z1, z3, z4, z5, z6, z7⟩ := Z
  exact ⟨z6, z7, z5, z4⟩
section
variable {e : dEnv} {d a C S : Nat} {b : xB} {l : List Nat} {m : dMem}
theorem x378g (Z : hX a b C S l m) {k : Nat} (hk : l.length + k ≤ gM b.2) (hk2 : k ≤ 16) (he : e.1 ≤ a) : ∃ m1 p g w, dN e (d + 3) 378 [.ref a, .int (Int32.ofNat (l.length + k))] m = some (.inl none, m1) ∧ hXp a b C S l p g w m1 ∧ l.length + k ≤ gL g ∧ frX a b m m1 := by
  obtain ⟨p, g, w, hp⟩ := Z
  have hp2 := hp
  have hle := hp.le
  obtain ⟨z1, z2, z3, z4, z5, z6, z7, z8, z9, z10⟩ := hp
  have q1 := hT_c z1
  have q2 := gL_b z8
  have q5 := gM_b z8
  by_cases q : l.length + k ≤ gL g
  · exact ⟨m, p, g, w, n378_0 (d := d + 2) z1 q, hp2, q, frX.rf⟩
  · have g4 : g < gT g := by
      rcases Nat.lt_or_ge g (gT g) with r | r
      · exact r
      · have : g = gT g := by omega
        have := q2.2.2.1 this
        omega
    have q3 := gL_s z8 g4
    obtain ⟨m1, a1, Z1, f1, f2⟩ := n378_1 (e := e) (d := d) z1 (k := l.length + k) (by omega) (by omega) (by omega) z5 (by omega) he
    have f2a : m1.2.1 = m.2.1 + 1 := by rw [f2]
    have f2b : m1.2.2 = m.2.2 + (gL g + (gL g + 2)) := by rw [f2]
    have hne : ¬ b.1 m.2.1 := fun z => by have := z7.2 _ z; omega
    refine ⟨m1, m.2.1, g + 1, dCp w (fun _ => 0) 0 0 (gL g), a1, ⟨?_, ?_, z3, ⟨z4.1, hne⟩, by omega, z6, ⟨by omega, fun q hq => by have := z7.2 q hq; omega⟩, q3.2.2.1, by rw [q3.2.2.2]; omega, by omega⟩, by omega, fun r h1 => f1 r (fun z => z4.1 (z ▸ h1)) (fun z => hne (z ▸ h1))⟩
    · rw [q3.1]
      exact Z1
    · intro i hi
      rw [← z2 i hi]
      show dCp w (fun _ => 0) 0 0 (gL g) i = w i
      unfold dCp
      rw [if_pos ⟨Nat.zero_le _, by omega⟩, Nat.zero_add, Nat.sub_zero]
theorem hX_M (Z : hX a b C S l m) : 286 ≤ gM b.2 ∧ gM b.2 ≤ 830 := by
  obtain ⟨p, g, w, hp⟩ := Z
  exact gM_b hp.2.2.2.2.2.2.2.1
theorem x378 (Z : hX a b C S l m) {k : Nat} (hk : l.length + k ≤ 286) (hk2 : k ≤ 16) (he : e.1 ≤ a) : ∃ m1 p g w, dN e (d + 3) 378 [.ref a, .int (Int32.ofNat (l.length + k))] m = some (.inl none, m1) ∧ hXp a b C S l p g w m1 ∧ l.length + k ≤ gL g ∧ frX a b m m1 := x378g Z (by have := hX_M Z; omega) hk2 he
theorem x373g (Z : hX a b C S l m) (hl : l.length + 6 < gM b.2) {v : Nat} (hv : v < 128) (he : e.1 ≤ a) : ∃ m2, dN e (d + 4) 373 [.ref a, .int (Int32.ofNat v)] m = some (.inl (some (.ref a)), m2) ∧ hX a b C S (l ++ [v]) m2 ∧ frX a b m m2 := by
  obtain ⟨m1, p, g, w, a1, Z1, q, F1⟩ := x378g (e := e) (d := d) Z (k := 1) (by omega) (by omega) he
  obtain ⟨p0, g0, w0, Z0⟩ := Z
  obtain ⟨z1, z2, z3, z4, z5, z6, z7, z8, z9, z10⟩ := Z1
  have hle := hXp.le (⟨z1, z2, z3, z4, z5, z6, z7, z8, z9, z10⟩ : hXp a b C S l p g w m1)
  obtain ⟨m2, b1, b2, b3, b4⟩ := n373_g (e := e) (d := d) Z0.1 a1 z1 (by omega) hv he (by omega)
  have hl2 : (l ++ [v]).length = l.length + 1 := by rw [List.length_append]; rfl
  refine ⟨m2, b1, ⟨p, g, _, by rw [hl2]; exact b2, dF_app z2, fun u hu => ?_, z4, by rw [b4]; exact z5, z6, by rw [b4]; exact z7, z8, by rw [b4]; exact z9, by rw [b4]; exact z10⟩, frX.tr F1 (fun r h1 => b3 r (fun z => z4.1 (z ▸ h1)) (fun z => z4.2 (z ▸ h1)))⟩
  rcases List.mem_append.mp hu with r | r
  · exact z3 u r
  · rw [List.mem_singleton.mp r]; exact hv
theorem x373 (Z : hX a b C S l m) (hl : l.length < 280) {v : Nat} (hv : v < 128) (he : e.1 ≤ a) : ∃ m2, dN e (d + 4) 373 [.ref a, .int (Int32.ofNat v)] m = some (.inl (some (.ref a)), m2) ∧ hX a b C S (l ++ [v]) m2 ∧ frX a b m m2 := x373g Z (by have := hX_M Z; omega) hv he
theorem x367g (Z : hX a b C S l m) (hl : l.length + 6 < gM b.2) {v : Nat} (hv : v < 128) (he : e.1 ≤ a) : ∃ m2, dN e (d + 5) 367 [.ref a, .int (Int32.ofNat v)] m = some (.inl (some (.ref a)), m2) ∧ hX a b C S (l ++ [v]) m2 ∧ frX a b m m2 := by
  obtain ⟨m2, g, h1, h2⟩ := x373g (e := e) (d := d) Z hl hv he
  obtain ⟨p0, g0, w0, Z0⟩ := Z
  refine ⟨m2, ?_, h1, h2⟩
  refine en367 (t_c Z0.1) fun t ht => ?_
  obtain ⟨u, rfl⟩ := fu 9 ht rfl
  rw [q367_0, g, kR_r]
theorem x367 (Z : hX a b C S l m) (hl : l.length < 280) {v : Nat} (hv : v < 128) (he : e.1 ≤ a) : ∃ m2, dN e (d + 5) 367 [.ref a, .int (Int32.ofNat v)] m = some (.inl (some (.ref a)), m2) ∧ hX a b C S (l ++ [v]) m2 ∧ frX a b m m2 := x367g Z (by have := hX_M Z; omega) hv he
theorem x370 (Z : hX a b C S l m) : dN e (d + 2) 370 [.ref a] m = rI (Int32.ofNat l.length) m := by
  obtain ⟨p0, g0, w0, Z0⟩ := Z
  exact n370 Z0.1
/-- one field of the object is written -/
theorem hT_put {p L c c' : Nat} {w : Nat → Int32} {v : Value} {k : Nat} (Z : hT a m p L c w) (h : k = 3 ∧ v = .int (Int32.ofNat c') ∧ c' ≤ L ∨ k = 2 ∧ c' = c) (he : e.1 ≤ a) : ∃ m2, pV e m a 1 k v = some m2 ∧ hT a m2 p L c' w ∧ (∀ q, q ≠ a → m2.1 q = m.1 q) ∧ m2.2 = m.2 := by
  obtain ⟨F, z, z0, z1, z3, z4, z5, z6, z7⟩ := Z
  refine ⟨dUp m a (.inr (1, fun j => if j = k then v else F j)), ?_, ⟨fun j => if j = k then v else F j, ?_, ?_, ?_, ?_, ?_, z5, by omega, z7⟩, fun q hq => ?_, rfl⟩
  · unfold pV
    simp only [z]
    rw [if_pos ⟨trivial, he⟩]
  · show (if a = a then _ else _) = _
    rw [if_pos rfl]
  · show (if 0 = k then v else F 0) = _
    rw [if_neg (by omega), z0]
  · show (if 1 = k then v else F 1) = _
    rw [if_neg (by omega), z1]
  · show (if 3 = k then v else F 3) = _
    rcases h with ⟨h1, h2, h3⟩ | ⟨h1, h2⟩
    · rw [if_pos h1.symm, h2]
    · rw [if_neg (by omega), z3, h2]
  · show (if p = a then _ else m.1 p) = _
    rw [if_neg z5, z4]
  · show (if q = a then _ else m.1 q) = _
    rw [if_neg hq]
theorem x371 (Z : hX a b C S l m) (he : e.1 ≤ a) : ∃ m2, dN e (d + 5) 371 [.ref a, .int (Int32.ofNat 0)] m = some (.inl none, m2) ∧ hX a b C S [] m2 ∧ frX a b m m2 := by
  obtain ⟨p, g, w, z1, z2, z3, z4, z5, z6, z7, z8, z9, z10⟩ := Z
  have q1 := hT_c z1
  have g0 : dN e (d + 3) 378 [.ref a, .int (Int32.ofNat 0)] m = some (.inl none, m) := n378_0 (d := d + 2) z1 (Nat.zero_le _)
  have key : ∃ m2, dN e (d + 4) 377 [.ref a, .int (Int32.ofNat 0)] m = some (.inl none, m2) ∧ hT a m2 p (gL g) 0 w ∧ (∀ q, q ≠ a → m2.1 q = m.1 q) ∧ m2.2 = m.2 := by
    by_cases q : 0 < l.length
    · obtain ⟨m1, b1, b2, b3, b4⟩ := hT_put (e := e) (v := .int (Int32.ofNat 1)) (k := 2) (c' := l.length) z1 (Or.inr ⟨rfl, rfl⟩) he
      obtain ⟨m2, c1, c2, c3, c4⟩ := hT_put (e := e) (v := .int (Int32.ofNat 0)) (k := 3) (c' := 0) b2 (Or.inl ⟨rfl, rfl, Nat.zero_le _⟩) he
      have b1' : pZ e m a 1 2 (Int32.ofNat 1) = some m1 := by
        unfold pZ
        rw [if_pos (Or.inr (by decide +kernel))]
        exact b1
      have c1' : pI e m1 a 1 3 (Int32.ofNat 0) = some m2 := c1
      refine ⟨m2, ?_, c2, fun r hr => (c3 r hr).trans (b3 r hr), c4.trans b4⟩
      refine en377 (t_c z1) fun t ht => ?_
      obtain ⟨u, rfl⟩ := fu 9 ht rfl
      rw [q377_0, if_neg (by decide +kernel), q377_1, g0, kV_r, t_n z1]
      simp only [bd_s]
      rw [if_neg (by rw [nLt (by omega) (by omega)]; omega), q377_3, t_n z1]
      simp only [bd_s]
      rw [if_pos (by rw [nLt (by omega) (by omega)]; exact q), b1']
      simp only [bd_s]
      rw [q377_4, c1']
      rfl
    · obtain ⟨m2, c1, c2, c3, c4⟩ := hT_put (e := e) (v := .int (Int32.ofNat 0)) (k := 3) (c' := 0) z1 (Or.inl ⟨rfl, rfl, Nat.zero_le _⟩) he
      have c1' : pI e m a 1 3 (Int32.ofNat 0) = some m2 := c1
      refine ⟨m2, ?_, c2, c3, c4⟩
      refine en377 (t_c z1) fun t ht => ?_
      obtain ⟨u, rfl⟩ := fu 9 ht rfl
      rw [q377_0, if_neg (by decide +kernel), q377_1, g0, kV_r, t_n z1]
      simp only [bd_s]
      rw [if_neg (by rw [nLt (by omega) (by omega)]; omega), q377_3, t_n z1]
      simp only [bd_s]
      rw [if_neg (by rw [nLt (by omega) (by omega)]; exact q), q377_4, c1']
      rfl
  obtain ⟨m2, k1, k2, k3, k4⟩ := key
  refine ⟨m2, ?_, ⟨p, g, w, k2, fun i hi => absurd hi (Nat.not_lt_zero _), fun v hv => absurd hv List.not_mem_nil, z4, by rw [k4]; exact z5, z6, by rw [k4]; exact z7, z8, by rw [k4]; exact z9, by rw [k4]; exact z10⟩, fun r h1 => k3 r (fun z => z4.1 (z ▸ h1))⟩
  refine en371 (t_c z1) fun t ht => ?_
  obtain ⟨u, rfl⟩ := fu 9 ht rfl
  rw [q371_0, k1, kV_r]
theorem ch16 {v : Nat} (hv : v < 128) : (((Int32.ofNat v) &&& (Int32.ofNat 255)).toUInt32 % 65536).toInt32 = Int32.ofNat v := by
  revert hv
  revert v
  decide +kernel
theorem gd_lt : ∀ {l : List Nat} {i : Nat}, (∀ v, v ∈ l → v < 128) → l.getD i 0 < 128 := by
  intro l i h
  rw [List.getD_eq_getElem?_getD]
  cases q : l[i]? with
  | none => decide
  | some v => exact h v (List.mem_of_getElem? q)
theorem x369 (Z : hX a b C S l m) {k : Nat} (hk : k < l.length) : dN e (d + 2) 369 [.ref a, .int (Int32.ofNat k)] m = rI (Int32.ofNat (l.getD k 0)) m := by
  obtain ⟨p, g, w, z1, z2, z3, z4, z5, z6, z7, z8, z9, z10⟩ := Z
  have q1 := hT_c z1
  have q9 := gL_b z8
  have q2 := gd_lt (i := k) z3
  have qk : (Int32.ofNat k).toInt = (k : Int) := nToI (by omega)
  have qm : mMin (Int32.ofNat l.length) (Int32.ofNat (gL g)) = Int32.ofNat l.length := by
    rw [mMin_n (by omega) (by omega), Nat.min_eq_left q1.1]
  have key : dN e (d + 1) 375 [.ref a, .int (Int32.ofNat k)] m = rI (Int32.ofNat (l.getD k 0)) m := by
    refine en375 (t_c z1) fun t ht => ?_
    obtain ⟨u, rfl⟩ := fu 9 ht rfl
    rw [q375_0, t_k z1]
    simp only [bd_s]
    rw [t_p z1]
    simp only [bd_s]
    rw [t_n z1]
    simp only [bd_s]
    rw [t_N z1]
    simp only [bd_s]
    rw [sh0, qm, qk, nToI (by omega), if_pos (by omega), if_pos trivial, t_w z1 (by omega)]
    simp only [bd_s]
    rw [z2 k hk, ch16 q2, rC_n (by omega)]
  refine en369 (t_c z1) fun t ht => ?_
  obtain ⟨u, rfl⟩ := fu 9 ht rfl
  rw [q369_0, key, kI_r, rC_n (by omega)]
end
end

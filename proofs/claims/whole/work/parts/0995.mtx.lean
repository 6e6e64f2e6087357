/-! ===== texts as lists of letters; the reference's text (printed by wip/whole/tx1.py) ===== -/
noncomputable section
/-- the letters of a name from the i-th on, n at most -/
def nmK (h : sV) (p : Nat) : Nat → Nat → List Nat
  | 0, _ => []
  | n + 1, i => if h (p + i) = Int32.ofNat 0 then [] else nN (h (p + i)) :: nmK h p n (i + 1)
def mrkS (s h : sV) (k : Nat) : List Nat := ((if gonB s k = true then [45] else [65 + nN (bx s k 4) / nN (h 1)] ++ dig (nN (bx s k 4) % nN (h 1))) ++ [47]) ++ nmK h (46 + 6 * clN s k) 6 0
def rowK (s h : sV) (i : Nat) : Nat → List Nat
  | 0 => []
  | q + 1 => rowK s h i q ++ [nN (sgnS s h (i * nN (h 1) + q))]
def rowS (s h : sV) (i : Nat) : List Nat := rowK s h i (nN (h 1))
def lstK (s h : sV) : Nat → List Nat
  | 0 => []
  | q + 1 => (((if 0 < q then lstK s h q ++ [32] else lstK s h q) ++ dig (nN (s (3 + q)))) ++ [58]) ++ dig (nN (dueS s h (nN (s (3 + q)))))
def lstS (s h : sV) : List Nat := if nlS s = 0 then [45] else lstK s h (nlS s)
theorem nmK_len {h : sV} {p : Nat} : ∀ {n i : Nat}, (nmK h p n i).length ≤ n := by
  intro n
  induction n with
  | zero => intro i; exact Nat.le_refl _
  | succ n ih =>
    intro i
    show (if h (p + i) = Int32.ofNat 0 then [] else nN (h (p + i)) :: nmK h p n (i + 1)).length ≤ n + 1
    split
    · exact Nat.zero_le _
    · exact Nat.succ_le_succ ih
theorem rowK_len {s h : sV} {i : Nat} : ∀ {q : Nat}, (rowK s h i q).length = q
  | 0 => rfl
  | q + 1 => by
    show (rowK s h i q ++ [_]).length = q + 1
    rw [List.length_append, rowK_len]
    rfl
theorem sgn_v {s h : sV} {q : Nat} : sgnS s h q = Int32.ofNat (nN (sgnS s h q)) ∧ nN (sgnS s h q) < 128 := by
  have key : ∃ v, sgnS s h q = Int32.ofNat v ∧ v < 128 := by
    unfold sgnS
    cases fnd (nbS s) (fun k => decide (bx s k 4 = Int32.ofNat q)) with
    | none => exact ⟨46, rfl, by omega⟩
    | some k =>
      show ∃ v, (if bx s k 5 = nM1 then _ else _) = _ ∧ _
      split
      · split
        · exact ⟨115, rfl, by omega⟩
        · split
          · exact ⟨112, rfl, by omega⟩
          · split
            · exact ⟨100, rfl, by omega⟩
            · exact ⟨98, rfl, by omega⟩
      · exact ⟨108, rfl, by omega⟩
  obtain ⟨v, h1, h2⟩ := key
  rw [h1, nN_o (by omega)]
  exact ⟨rfl, h2⟩
theorem WB.mk {h s : sV} {k : Nat} (W : WB h s k) (hg : gonB s k = false) : ∃ q, bx s k 4 = Int32.ofNat q ∧ nN (bx s k 4) = q ∧ q ≤ 47 ∧ q < mkN h := by
  obtain ⟨-, -, -, -, a4, -⟩ := W
  rcases a4 with ⟨-, y⟩ | ⟨y, z, -⟩
  · unfold gonB at hg
    rw [y] at hg
    exact absurd hg (by decide +kernel)
  · obtain ⟨q, q1, q2, -, q4⟩ := y.ex
    exact ⟨q, q1, q2, q4, by omega⟩
theorem due_v {Y : Nat} {h s : sV} {k : Nat} (hY : Y + 100 ≤ 1000000) (W : WS Y h s) (H : WH h) {p : Nat} (hp : p < nlS s) (hk : s (3 + p) = Int32.ofNat k) (hk2 : k < 24) : dueS s h k = Int32.ofNat (nN (dueS s h k)) ∧ nN (dueS s h k) < 1000000 := by
  obtain ⟨w1, w2, w3⟩ := W.2.2.2.2.1 p hp
  have hkn : nN (s (3 + p)) = k := by rw [hk, nN_o (by omega)]
  rw [hkn] at w2 w3
  obtain ⟨d1, d2, d3, d4, d5⟩ := due_n (by omega) W H w2
  obtain ⟨y, y1, y2, y3, y4⟩ := W.2.2.1.ex
  have hv : nN (bx s k 1) + nN (h (94 + clN s k)) + nN (bx s k 2) + 1 < 2147483648 := by omega
  rw [d1, y1, nLe hv (by omega)] at w3
  rw [d1, nN_o hv]
  exact ⟨rfl, by omega⟩
theorem lstK_len {Y : Nat} {s h : sV} (hY : Y + 100 ≤ 1000000) (W : WS Y h s) (H : WH h) : ∀ {q : Nat}, q ≤ nlS s → (lstK s h q).length ≤ 10 * q ∧ (0 < q → 0 < (lstK s h q).length)
  | 0, _ => ⟨Nat.le_refl _, fun h => absurd h (Nat.lt_irrefl _)⟩
  | q + 1, hq => by
    have ih := lstK_len (q := q) hY W H (by omega)
    obtain ⟨w1, w2, w3⟩ := W.2.2.2.2.1 q (by omega)
    obtain ⟨k, k1, k2, -, k4⟩ := w1.ex
    have dv := due_v (k := k) hY W H (p := q) (by omega) k1 (by omega)
    rw [← k2] at dv
    have l1 := dig_n dv.2
    have l2 := dgN_b dv.2
    have l3 := dig_n (v := nN (s (3 + q))) (by omega)
    have l4 : dgN (nN (s (3 + q))) ≤ 2 := by unfold dgN; rw [k2]; (repeat' split) <;> omega
    have l5 := dgN_b (v := nN (s (3 + q))) (by omega)
    show ((((if 0 < q then lstK s h q ++ [32] else lstK s h q) ++ dig (nN (s (3 + q)))) ++ [58]) ++ dig (nN (dueS s h (nN (s (3 + q)))))).length ≤ 10 * (q + 1) ∧ (0 < q + 1 → 0 < ((((if 0 < q then lstK s h q ++ [32] else lstK s h q) ++ dig (nN (s (3 + q)))) ++ [58]) ++ dig (nN (dueS s h (nN (s (3 + q)))))).length)
    rw [List.length_append, List.length_append, List.length_append, l1, l3, show ([58] : List Nat).length = 1 from rfl]
    have l6 : (if 0 < q then lstK s h q ++ [32] else lstK s h q).length ≤ 10 * q + 1 := by
      split
      · rw [List.length_append, show ([32] : List Nat).length = 1 from rfl]; omega
      · omega
    exact ⟨by omega, fun _ => by omega⟩
/-- the reference's text -/
def yT (M : bX) (l : List Nat) : Prop := M.1 0 21 = Int32.ofNat l.length ∧ l.length ≤ 300 ∧ ∀ i, i < l.length → M.1 7 i = Int32.ofNat (l.getD i 0)
/-- all but the text is as it was -/
def mX (M M' : bX) : Prop := (∀ i, i ≠ 0 → i ≠ 7 → M'.1 i = M.1 i) ∧ ∀ k, k ≠ 21 → M'.1 0 k = M.1 0 k
theorem mX.rf {M : bX} : mX M M := ⟨fun _ _ _ => rfl, fun _ _ => rfl⟩
theorem mX.tr {M M1 M2 : bX} (a : mX M M1) (b : mX M1 M2) : mX M M2 := ⟨fun i h1 h2 => (b.1 i h1 h2).trans (a.1 i h1 h2), fun k hk => (b.2 k hk).trans (a.2 k hk)⟩
theorem yT_0 {M : bX} : yT (uA M 0 (wr (M.1 0) 21 (Int32.ofNat 0))) [] ∧ mX M (uA M 0 (wr (M.1 0) 21 (Int32.ofNat 0))) := by
  refine ⟨⟨?_, Nat.zero_le _, fun i hi => absurd hi (Nat.not_lt_zero _)⟩, fun i h1 h2 => uA_n h1, fun k hk => ?_⟩
  · rw [uA_s, wr_s]
    rfl
  · rw [uA_s, wr_n hk]
section
variable {e : dEnv} {d b Y : Nat} {M : bX} {l : List Nat} {m : dMem}
theorem c_say (he : e.1 ≤ b) (Z : yT M l) {v : Nat} (hl : l.length < 300) : ∃ M', dN e (d + 1) 285 [.ref b, .int (Int32.ofNat v)] (ov TM 8 b M m) = some (.inl none, ov TM 8 b M' m) ∧ yT M' (l ++ [v]) ∧ mX M M' := by
  obtain ⟨z1, z2, z3⟩ := Z
  have hl2 : (l ++ [v]).length = l.length + 1 := by rw [List.length_append]; rfl
  refine ⟨uA (uA M 7 (wr (M.1 7) l.length (Int32.ofNat v))) 0 (wr (M.1 0) 21 (Int32.ofNat (l.length + 1))), ?_, ⟨?_, by omega, fun i hi => ?_⟩, fun i h0 h7 => ?_, fun k hk => ?_⟩
  · refine en285 M_c0 fun t ht => ?_
    obtain ⟨u, rfl⟩ := fu 9 ht rfl
    rw [q285_0, M_r0_20]
    simp only [bd_s]
    rw [M_g0_21, z1]
    simp only [bd_s]
    rw [M_s7 he (by omega)]
    simp only [bd_s]
    rw [M_g0_21, uA_n (by omega), z1]
    simp only [bd_s]
    rw [nAdd, M_p0_21 he, uA_n (by omega)]
    rfl
  · rw [uA_s, wr_s, hl2]
  · rw [uA_n (by omega), uA_s]
    exact dF_app z3 i hi
  · rw [uA_n h0, uA_n h7]
  · rw [uA_s, wr_n hk]
theorem c_sayN (he : e.1 ≤ b) : ∀ n v : Nat, v < 10 ^ (n + 1) → v < 1000000 → ∀ (M : bX) (l : List Nat), yT M l → l.length + dgN v ≤ 300 → ∃ M', dN e (d + n + 2) 286 [.ref b, .int (Int32.ofNat v)] (ov TM 8 b M m) = some (.inl none, ov TM 8 b M' m) ∧ yT M' (l ++ dig v) ∧ mX M M' := by
  intro n
  induction n with
  | zero =>
    intro v h1 h2 M l Z hl
    have h1' : v < 10 := h1
    rw [dgN_1 h1'] at hl
    obtain ⟨M', g, Z', X'⟩ := c_say (e := e) (d := d) (m := m) (v := 48 + v % 10) he Z (by omega)
    refine ⟨M', ?_, by rw [dig_1 h1']; rw [Nat.mod_eq_of_lt h1'] at Z'; exact Z', X'⟩
    refine en286 M_c0 fun t ht => ?_
    obtain ⟨u, rfl⟩ := fu 9 ht rfl
    rw [q286_0, if_neg (by rw [nLt (by omega) (by omega)]; omega), q286_1, if_neg (by decide +kernel), nMod (by omega) (by omega), nAdd]
    show kV (dN e (d + 1) 285 _ _) _ _ = _
    rw [g, kV_r]
  | succ n ih =>
    intro v h1 h2 M l Z hl
    by_cases q : v < 10
    · rw [dgN_1 q] at hl
      obtain ⟨M', g, Z', X'⟩ := c_say (e := e) (d := d + n + 1) (m := m) (v := 48 + v % 10) he Z (by omega)
      refine ⟨M', ?_, by rw [dig_1 q]; rw [Nat.mod_eq_of_lt q] at Z'; exact Z', X'⟩
      refine en286 M_c0 fun t ht => ?_
      obtain ⟨u, rfl⟩ := fu 9 ht rfl
      rw [q286_0, if_neg (by rw [nLt (by omega) (by omega)]; omega), q286_1, if_neg (by decide +kernel), nMod (by omega) (by omega), nAdd]
      show kV (dN e (d + n + 1 + 1) 285 _ _) _ _ = _
      rw [g, kV_r]
    · have n10 := dgN_2 (v := v) (by omega) h2
      have hp : 10 ^ (n + 1 + 1) = 10 ^ (n + 1) * 10 := Nat.pow_succ 10 (n + 1)
      obtain ⟨M1, g1, Z1, X1⟩ := ih (v / 10) (by omega) (by omega) M l Z (by omega)
      have l1 : (l ++ dig (v / 10)).length = l.length + dgN (v / 10) := by rw [List.length_append, dig_n (by omega)]
      obtain ⟨M', g, Z', X'⟩ := c_say (e := e) (d := d + n + 1) (m := m) (v := 48 + v % 10) he Z1 (by omega)
      refine ⟨M', ?_, by rw [dig_2 (by omega), ← List.append_assoc]; exact Z', X1.tr X'⟩
      refine en286 M_c0 fun t ht => ?_
      obtain ⟨u, rfl⟩ := fu 9 ht rfl
      rw [q286_0, if_pos (by rw [nLt (by omega) (by omega)]; omega), if_neg (by decide +kernel), nDiv (by omega) (by omega)]
      show kV (dN e (d + n + 2) 286 _ _) _ _ = _
      rw [g1, kV_r, q286_1, if_neg (by decide +kernel), nMod (by omega) (by omega), nAdd]
      show kV (dN e (d + n + 1 + 1) 285 _ _) _ _ = _
      rw [g, kV_r]
theorem c_num (he : e.1 ≤ b) (Z : yT M l) {v : Nat} (hv : v < 1000000) (hl : l.length + dgN v ≤ 300) : ∃ M', dN e (d + 7) 286 [.ref b, .int (Int32.ofNat v)] (ov TM 8 b M m) = some (.inl none, ov TM 8 b M' m) ∧ yT M' (l ++ dig v) ∧ mX M M' := c_sayN (d := d) (m := m) he 5 v hv hv M l Z hl
/-- a name's letters -/
theorem c_nm (he : e.1 ≤ b) {h : sV} {p : Nat} (hp : p + 6 ≤ 118) (W : ∀ i, i < 6 → okI 0 127 (h (p + i))) : ∀ (n i : Nat) (M : bX) (l : List Nat), i + n = 6 → M.1 1 = h → yT M l → l.length + n ≤ 300 → ∃ M', (∀ t, 2 * n + 4 ≤ t → runL e (dN e (d + 1)) 287 t 4 [some (.ref b), none, some (.int (Int32.ofNat p)), some (.int (Int32.ofNat i))] [] (ov TM 8 b M m) = rI (Int32.ofNat (l ++ nmK h p n i).length) (ov TM 8 b M' m)) ∧ yT M' (l ++ nmK h p n i) ∧ mX M M' := by
  intro n
  induction n with
  | zero =>
    intro i M l hi h1 Z hl
    have e0 : l ++ nmK h p 0 i = l := List.append_nil l
    rw [e0]
    refine ⟨M, fun t ht => ?_, Z, mX.rf⟩
    obtain ⟨u, rfl⟩ : ∃ u, t = u + 2 := ⟨t - 2, by omega⟩
    rw [q287_4, if_neg (by rw [nLt (by omega) (by omega)]; omega), q287_5, M_g0_21, Z.1]
    rfl
  | succ n ih =>
    intro i M l hi h1 Z hl
    have a1 : aI (ov TM 8 b M m) 0 (b + 1) (Int32.ofNat (p + i)) = some (h (p + i)) := by rw [M_a1 (by omega), h1]
    by_cases q : h (p + i) = Int32.ofNat 0
    · have e0 : l ++ nmK h p (n + 1) i = l := by
        show l ++ (if h (p + i) = Int32.ofNat 0 then [] else _) = l
        rw [if_pos q, List.append_nil]
      rw [e0]
      refine ⟨M, fun t ht => ?_, Z, mX.rf⟩
      obtain ⟨u, rfl⟩ : ∃ u, t = u + 2 := ⟨t - 2, by omega⟩
      rw [q287_4, if_pos (by rw [nLt (by omega) (by omega)]; omega), M_r0_2]
      simp only [bd_s]
      rw [nAdd, a1]
      simp only [bd_s]
      rw [if_pos q, q287_5, M_g0_21, Z.1]
      rfl
    · obtain ⟨v, v1, v2, -, v4⟩ := (W i (by omega)).ex
      obtain ⟨M1, g, Z1, X1⟩ := c_say (e := e) (d := d) (m := m) (v := v) he Z (by omega)
      have l1 : (l ++ [v]).length = l.length + 1 := by rw [List.length_append]; rfl
      obtain ⟨M2, g2, Z2, X2⟩ := ih (i + 1) M1 (l ++ [v]) (by omega) ((X1.1 1 (by omega) (by omega)).trans h1) Z1 (by omega)
      have e0 : l ++ nmK h p (n + 1) i = l ++ [v] ++ nmK h p n (i + 1) := by
        show l ++ (if h (p + i) = Int32.ofNat 0 then [] else nN (h (p + i)) :: nmK h p n (i + 1)) = _
        rw [if_neg q, v2, List.append_assoc]
        rfl
      rw [e0]
      refine ⟨M2, fun t ht => ?_, Z2, X1.tr X2⟩
      obtain ⟨u, rfl⟩ : ∃ u, t = u + 1 := ⟨t - 1, by omega⟩
      rw [q287_4, if_pos (by rw [nLt (by omega) (by omega)]; omega), M_r0_2]
      simp only [bd_s]
      rw [nAdd, a1]
      simp only [bd_s]
      rw [if_neg q, v1, g, kV_r, nAdd, g2 u (by omega)]
theorem m287_1 {x : Int32} (he : e.1 ≤ b) (hl : M.1 0 1 = Int32.ofNat 0) : dN e (d + 8) 287 [.ref b, .int x] (ov TM 8 b M m) = rI (Int32.ofNat 0) (ov TM 8 b (mT M 1) m) := by
  refine en287 M_c0 fun t ht => ?_
  obtain ⟨u, rfl⟩ := fu 9 ht rfl
  rw [q287_0, c_bo1 (d := d + 4) he hl, kI_r, if_neg (by decide +kernel)]
theorem m287_2 {x : Int32} {n : Nat} (he : e.1 ≤ b) (hl : M.1 0 1 = Int32.ofNat 1) (hn : M.1 2 1 = Int32.ofNat n) (hm : n ≤ 24) (hx : rngB 0 ((n : Int) - 1) x = false) : dN e (d + 8) 287 [.ref b, .int x] (ov TM 8 b M m) = rI (Int32.ofNat 0) (ov TM 8 b (mT M 2) m) := by
  refine en287 M_c0 fun t ht => ?_
  obtain ⟨u, rfl⟩ := fu 9 ht rfl
  rw [q287_0, c_bo2 (d := d + 4) he hl hn hm hx, kI_r, if_neg (by decide +kernel)]
/-- the name behind the slash -/
theorem c_mk3 (he : e.1 ≤ b) {h s : sV} {k : Nat} (hk : k < 24) (H : WH h) (hw : WB h s k) (h1 : M.1 1 = h) (h2 : M.1 2 = s) (Z : yT M l) (hl : l.length ≤ 200) : ∃ M', (∀ t, 30 ≤ t → runL e (dN e (d + 7)) 287 t 3 [some (.ref b), some (.int (Int32.ofNat k)), none, none] [] (ov TM 8 b M m) = rI (Int32.ofNat ((l ++ [47]) ++ nmK h (46 + 6 * clN s k) 6 0).length) (ov TM 8 b M' m)) ∧ yT M' ((l ++ [47]) ++ nmK h (46 + 6 * clN s k) 6 0) ∧ mX M M' := by
  obtain ⟨c, c1, c2, -, c4⟩ := hw.1.ex
  have hc : clN s k = c := c2
  have hcl : clN s k < nN (h 2) := hw.2.1
  have Wn : WN h (46 + 6 * clN s k) := (H.2.2.2.2.1 (clN s k) hcl).2.2.2
  rw [hc] at Wn ⊢
  obtain ⟨M1, g1, Z1, X1⟩ := c_say (e := e) (d := d + 6) (m := m) (v := 47) he Z (by omega)
  have l1 : (l ++ [47]).length = l.length + 1 := by rw [List.length_append]; rfl
  have g2 := c_box (e := e) (b := b) (m := m) (M := M1) (d := d + 6) hk (show 0 < 12 by omega)
  rw [X1.1 2 (by omega) (by omega), h2, c1] at g2
  obtain ⟨M2, g3, Z2, X2⟩ := c_nm (e := e) (d := d + 6) (m := m) he (p := 46 + 6 * c) (by omega) Wn.1 6 0 M1 (l ++ [47]) rfl ((X1.1 1 (by omega) (by omega)).trans h1) Z1 (by omega)
  refine ⟨M2, fun t ht => ?_, Z2, X1.tr X2⟩
  obtain ⟨u, rfl⟩ : ∃ u, t = u + 1 := ⟨t - 1, by omega⟩
  rw [q287_3, g1, kV_r, g2, kI_r, nMul, nAdd, g3 u (by omega)]
theorem m287_0 {n k : Nat} (he : e.1 ≤ b) (hl : M.1 0 1 = Int32.ofNat 1) (hn : M.1 2 1 = Int32.ofNat n) (hm : n ≤ 24) (hk : k < n) (H : WH (M.1 1)) (hw : WB (M.1 1) (M.1 2) k) : ∃ M', dN e (d + 8) 287 [.ref b, .int (Int32.ofNat k)] (ov TM 8 b M m) = rI (Int32.ofNat (mrkS (M.1 2) (M.1 1) k).length) (ov TM 8 b M' m) ∧ yT M' (mrkS (M.1 2) (M.1 1) k) ∧ mX (mT M 0) M' := by
  have hk24 : k < 24 := by omega
  obtain ⟨Z1, X1⟩ := yT_0 (M := mT M 0)
  have gb := c_bo0 (e := e) (b := b) (m := m) (d := d + 4) he hl hn hm hk
  have f2 : (uA (mT M 0) 0 (wr ((mT M 0).1 0) 21 (Int32.ofNat 0))).1 2 = M.1 2 := X1.1 2 (by omega) (by omega)
  have f1 : (uA (mT M 0) 0 (wr ((mT M 0).1 0) 21 (Int32.ofNat 0))).1 1 = M.1 1 := X1.1 1 (by omega) (by omega)
  have gg := c_isGone (e := e) (b := b) (m := m) (M := uA (mT M 0) 0 (wr ((mT M 0).1 0) 21 (Int32.ofNat 0))) (d := d + 5) hk24
  rw [f2] at gg
  cases hg : gonB (M.1 2) k with
  | true =>
    rw [hg] at gg
    obtain ⟨M2, g2, Z2, X2⟩ := c_say (e := e) (d := d + 6) (m := m) (v := 45) he Z1 (by decide)
    obtain ⟨M3, g3, Z3, X3⟩ := c_mk3 (e := e) (d := d) (m := m) he hk24 H hw ((X2.1 1 (by omega) (by omega)).trans f1) ((X2.1 2 (by omega) (by omega)).trans f2) Z2 (by decide)
    have e0 : mrkS (M.1 2) (M.1 1) k = (([] ++ [45]) ++ [47]) ++ nmK (M.1 1) (46 + 6 * clN (M.1 2) k) 6 0 := by
      unfold mrkS
      rw [if_pos hg]
      rfl
    rw [e0]
    refine ⟨M3, ?_, Z3, (X1.tr X2).tr X3⟩
    refine en287 M_c0 fun t ht => ?_
    obtain ⟨u, rfl⟩ := fu 9 ht rfl
    rw [q287_0, gb, kI_r, if_pos (by decide +kernel), q287_1, M_p0_21 he]
    simp only [bd_s]
    rw [gg, kI_r, if_neg (by decide +kernel), g2, kV_r, g3 _ (by omega)]
  | false =>
    rw [hg] at gg
    obtain ⟨q, q1, q2, q3, q4⟩ := hw.mk hg
    obtain ⟨P, p1, p2, p3, p4⟩ := H.2.1.ex
    have qp : q % P < 8 := by have := Nat.mod_lt q (show 0 < P by omega); omega
    have qd : q / P ≤ 47 := Nat.le_trans (Nat.div_le_self q P) q3
    have b1 := c_box (e := e) (b := b) (m := m) (M := uA (mT M 0) 0 (wr ((mT M 0).1 0) 21 (Int32.ofNat 0))) (d := d + 6) hk24 (show 4 < 12 by omega)
    rw [f2, q1] at b1
    obtain ⟨M2, g2, Z2, X2⟩ := c_say (e := e) (d := d + 6) (m := m) (v := 65 + q / P) he Z1 (by decide)
    have h2 : M2.1 2 = M.1 2 := (X2.1 2 (by omega) (by omega)).trans f2
    have h1 : M2.1 1 = M.1 1 := (X2.1 1 (by omega) (by omega)).trans f1
    have b2 := c_box (e := e) (b := b) (m := m) (M := M2) (d := d + 6) hk24 (show 4 < 12 by omega)
    rw [h2, q1] at b2
    have dq := dgN_b (v := q % P) (by omega)
    obtain ⟨M3, g3, Z3, X3⟩ := c_num (e := e) (d := d) (m := m) he Z2 (v := q % P) (by omega) (show 1 + dgN (q % P) ≤ 300 by omega)
    have l3 : (([] : List Nat) ++ [65 + q / P] ++ dig (q % P)).length ≤ 200 := by
      rw [List.length_append, dig_n (by omega)]
      show 1 + dgN (q % P) ≤ 200
      omega
    obtain ⟨M4, g4, Z4, X4⟩ := c_mk3 (e := e) (d := d) (m := m) he hk24 H hw ((X3.1 1 (by omega) (by omega)).trans h1) ((X3.1 2 (by omega) (by omega)).trans h2) Z3 l3
    have e0 : mrkS (M.1 2) (M.1 1) k = ((([] ++ [65 + q / P]) ++ dig (q % P)) ++ [47]) ++ nmK (M.1 1) (46 + 6 * clN (M.1 2) k) 6 0 := by
      unfold mrkS
      rw [if_neg (by rw [hg]; exact Bool.false_ne_true), q2, p2]
      rfl
    rw [e0]
    refine ⟨M4, ?_, Z4, ((X1.tr X2).tr X3).tr X4⟩
    have hp0 : ¬ Int32.ofNat P = Int32.ofNat 0 := by rw [nEq (by omega) (by omega)]; omega
    refine en287 M_c0 fun t ht => ?_
    obtain ⟨u, rfl⟩ := fu 9 ht rfl
    rw [q287_0, gb, kI_r, if_pos (by decide +kernel), q287_1, M_p0_21 he]
    simp only [bd_s]
    rw [gg, kI_r, if_pos (by decide +kernel), q287_2, b1, kI_r, M_r0_2]
    simp only [bd_s]
    rw [M_a1 (by omega), f1, p1]
    simp only [bd_s]
    rw [if_neg hp0, nDiv (by omega) (by omega), nAdd, g2, kV_r, b2, kI_r, M_r0_2]
    simp only [bd_s]
    rw [M_a1 (by omega), h1, p1]
    simp only [bd_s]
    rw [if_neg hp0, nMod (by omega) (by omega), g3, kV_r, g4 _ (by omega)]
end
end

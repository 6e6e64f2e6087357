/-! ===== the text is told to the object ===== -/
noncomputable section
def pk (v : Int32) (c : Nat) : Int32 := (v <<< (Int32.ofNat 8 &&& 31)) ||| Int32.ofNat c
theorem pk_bit {v : Int32} {c i : Nat} (hc : c < 256) (hi : i < 32) : (pk v c).toBitVec.getLsbD i = if i < 8 then c.testBit i else v.toBitVec.getLsbD (i - 8) := by
  have e1 : (Int32.ofNat 8 &&& 31).toBitVec.smod 32 = 8#32 := by decide +kernel
  have e2 : (Int32.ofNat c).toBitVec = BitVec.ofNat 32 c := rfl
  unfold pk
  rw [Int32.toBitVec_or, Int32.toBitVec_shiftLeft, e1, e2, BitVec.getLsbD_or, BitVec.shiftLeft_eq', BitVec.getLsbD_shiftLeft, BitVec.getLsbD_ofNat, show (8#32 : BitVec 32).toNat = 8 from rfl, decide_eq_true hi, Bool.true_and, Bool.true_and]
  by_cases q : i < 8
  · rw [decide_eq_true q, if_pos q]
    rfl
  · rw [decide_eq_false q, if_neg q, Nat.testBit_lt_two_pow (Nat.lt_of_lt_of_le hc (show 2 ^ 8 ≤ 2 ^ i from Nat.pow_le_pow_right (by omega) (by omega))), Bool.or_false]
    rfl
theorem bv_bit {v : Int32} {k j : Nat} (hk : k < 4) (hj : j < 8) : (bv v k).testBit j = v.toBitVec.getLsbD (24 - 8 * k + j) := by
  have e1 : ∀ k, k < 4 → (Int32.ofNat (24 - 8 * k) &&& 31).toBitVec.smod 32 = BitVec.ofNat 32 (24 - 8 * k) := by decide +kernel
  unfold bv
  rw [show 256 = 2 ^ 8 from rfl, Nat.testBit_mod_two_pow, decide_eq_true hj, Bool.true_and, BitVec.testBit_toNat, Int32.toBitVec_shiftRight, e1 k hk]
  show ((v.toBitVec).sshiftRight (BitVec.ofNat 32 (24 - 8 * k)).toNat).getLsbD j = _
  rw [BitVec.getLsbD_sshiftRight, BitVec.toNat_ofNat, Nat.mod_eq_of_lt (by omega), if_pos (by omega), decide_eq_false (by omega)]
  rfl
/-- n letters pressed into a word -/
def pw (v : Int32) (ch : Nat → Nat) (i : Nat) : Nat → Int32
  | 0 => v
  | n + 1 => pk (pw v ch i n) (ch (4 * i + n))
theorem bv_pw {v : Int32} {ch : Nat → Nat} {i k : Nat} (hc : ∀ j, ch j < 256) (hk : k < 4) : bv (pw v ch i 4) k = ch (4 * i + k) := by
  apply Nat.eq_of_testBit_eq
  intro j
  by_cases hj : j < 8
  · rw [bv_bit hk hj]
    show (pk (pk (pk (pk v (ch (4 * i + 0))) (ch (4 * i + 1))) (ch (4 * i + 2))) (ch (4 * i + 3))).toBitVec.getLsbD _ = _
    have c : k = 0 ∨ k = 1 ∨ k = 2 ∨ k = 3 := by omega
    rcases c with c | c | c | c <;> subst c
    · rw [pk_bit (hc _) (by omega), if_neg (by omega), pk_bit (hc _) (by omega), if_neg (by omega), pk_bit (hc _) (by omega), if_neg (by omega), pk_bit (hc _) (by omega), if_pos (by omega)]
      congr 1
      omega
    · rw [pk_bit (hc _) (by omega), if_neg (by omega), pk_bit (hc _) (by omega), if_neg (by omega), pk_bit (hc _) (by omega), if_pos (by omega)]
      congr 1
      omega
    · rw [pk_bit (hc _) (by omega), if_neg (by omega), pk_bit (hc _) (by omega), if_pos (by omega)]
      congr 1
      omega
    · rw [pk_bit (hc _) (by omega), if_pos (by omega)]
      congr 1
      omega
  · have h8 : ∀ n, n < 256 → n.testBit j = false := fun n hn => Nat.testBit_lt_two_pow (Nat.lt_of_lt_of_le hn (show 2 ^ 8 ≤ 2 ^ j from Nat.pow_le_pow_right (by omega) (by omega)))
    have hb : bv (pw v ch i 4) k < 256 := Nat.mod_lt _ (by omega)
    rw [h8 _ hb, h8 _ (hc _)]
theorem gd32 {l : List Nat} {i : Nat} (hi : i < l.length) : l.getD i 32 = l.getD i 0 := by
  rw [List.getD_eq_getElem?_getD, List.getD_eq_getElem?_getD, List.getElem?_eq_getElem hi]
  rfl
theorem gd32_n {l : List Nat} {i : Nat} (hi : ¬ i < l.length) : l.getD i 32 = 32 := by
  rw [List.getD_eq_getElem?_getD, List.getElem?_eq_none (by omega)]
  rfl
theorem gd32_b {l : List Nat} (hv : ∀ v, v ∈ l → v < 128) (i : Nat) : l.getD i 32 < 256 := by
  by_cases q : i < l.length
  · rw [gd32 q]
    have := gd_lt (i := i) hv
    omega
  · rw [gd32_n q]
    omega
/-- while the words are filled: what stands in them -/
def gF (g : Nat → Int32) (ch : Nat → Nat) (k : Nat) : Nat → Int32 := fun i => pw (g i) ch i (min 4 (k - 4 * i))
theorem gF_0 {g : Nat → Int32} {ch : Nat → Nat} : gF g ch 0 = g := by
  funext i
  unfold gF
  rw [show min 4 (0 - 4 * i) = 0 by omega]
  rfl
theorem gF_s {g : Nat → Int32} {ch : Nat → Nat} {k : Nat} : gF g ch (k + 1) = wr (gF g ch k) (k / 4) (pk (gF g ch k (k / 4)) (ch k)) := by
  funext i
  by_cases q : i = k / 4
  · subst q
    rw [wr_s]
    unfold gF
    rw [show min 4 (k + 1 - 4 * (k / 4)) = min 4 (k - 4 * (k / 4)) + 1 by omega]
    show pk _ (ch (4 * (k / 4) + min 4 (k - 4 * (k / 4)))) = _
    rw [show 4 * (k / 4) + min 4 (k - 4 * (k / 4)) = k by omega]
  · rw [wr_n q]
    unfold gF
    rw [show min 4 (k + 1 - 4 * i) = min 4 (k - 4 * i) by omega]
section
variable {e : dEnv} {d x r q : Nat} {l : List Nat} {m : dMem} {g : Nat → Int32}
theorem ai5 (Z : m.1 q = some (.inl (0, 5, .inl g))) {i : Nat} (hi : i < 5) : aI m 0 q (Int32.ofNat i) = some (g i) := by
  unfold aI
  rw [Z]
  show (if 0 = 0 ∧ 0 ≤ (Int32.ofNat i).toInt ∧ (Int32.ofNat i).toInt < ((5 : Nat) : Int) then some (g (Int32.ofNat i).toInt.toNat) else none) = _
  rw [nToI (by omega), if_pos ⟨rfl, by omega, by omega⟩]
  rfl
theorem si5 (Z : m.1 q = some (.inl (0, 5, .inl g))) (he : e.1 ≤ q) {i : Nat} (hi : i < 5) {y : Int32} : sI e m 0 q (Int32.ofNat i) y = some (dUp m q (.inl (0, 5, .inl (wr g i y)))) := by
  unfold sI
  rw [Z]
  show (if 0 = 0 ∧ e.1 ≤ q ∧ 0 ≤ (Int32.ofNat i).toInt ∧ (Int32.ofNat i).toInt < ((5 : Nat) : Int) then _ else none) = _
  rw [nToI (by omega), if_pos ⟨rfl, he, by omega, by omega⟩]
  rfl
/-- twenty letters, pressed into five words -/
theorem fd_in {P : Nat → Prop} {h0 : Nat} (he : e.1 ≤ q) (hP : ¬ P q) (hl : l.length ≤ 900) (hv : ∀ v, v ∈ l → v < 128) (hh : h0 ≤ 1000) : ∀ n k m, k + n = 20 → m.1 q = some (.inl (0, 5, .inl (gF g (fun j => l.getD (h0 + j) 32) k))) → hS2 P m r l → ∃ m', m'.1 q = some (.inl (0, 5, .inl (gF g (fun j => l.getD (h0 + j) 32) 20))) ∧ (∀ p, p ≠ q → m'.1 p = m.1 p) ∧ m'.2 = m.2 ∧ ∀ t, ∃ t', t ≤ t' ∧ runL e (dN e (d + 2)) 187 (t + 3 * n + 1) 2 [some (.ref x), some (.ref r), some (.ref q), some (.int (Int32.ofNat h0)), some (.int (Int32.ofNat k))] [] m = runL e (dN e (d + 2)) 187 t' 5 [some (.ref x), some (.ref r), some (.ref q), some (.int (Int32.ofNat h0)), none] [] m' := by
  intro n
  induction n with
  | zero =>
    intro k m hk hq T
    have k20 : k = 20 := by omega
    subst k20
    refine ⟨m, hq, fun _ _ => rfl, rfl, fun t => ⟨t, Nat.le_refl _, ?_⟩⟩
    rw [Nat.mul_zero, Nat.add_zero, q187_2, if_neg (by rw [nLt (by omega) (by omega)]; omega)]
  | succ n ih =>
    intro k m hk hq T
    obtain ⟨mm, hmm⟩ : ∃ mm, mm = dUp m q (.inl (0, 5, .inl (gF g (fun j => l.getD (h0 + j) 32) (k + 1)))) := ⟨_, rfl⟩
    have h1 : mm.1 q = some (.inl (0, 5, .inl (gF g (fun j => l.getD (h0 + j) 32) (k + 1)))) := by rw [hmm]; exact dUp_s
    have h2 : ∀ p, p ≠ q → mm.1 p = m.1 p := fun p hp => by rw [hmm]; exact dUp_n hp
    have h3 : mm.2 = m.2 := by rw [hmm]; rfl
    obtain ⟨m', a1, a2, a3, a4⟩ := ih (k + 1) mm (by omega) h1 (T.fr (fun p hp => h2 p (fun z => hP (z ▸ hp))))
    refine ⟨m', a1, fun p hp => (a2 p hp).trans (h2 p hp), a3.trans h3, fun t => ?_⟩
    obtain ⟨z, T1⟩ := T.s1
    have hst : sI e m 0 q (Int32.ofNat (k / 4)) (pk (gF g (fun j => l.getD (h0 + j) 32) k (k / 4)) (l.getD (h0 + k) 32)) = some mm := by
      rw [si5 hq he (by omega), hmm, gF_s]
    have four : ∀ u, runL e (dN e (d + 2)) 187 (u + 1) 4 [some (.ref x), some (.ref r), some (.ref q), some (.int (Int32.ofNat h0)), some (.int (Int32.ofNat k))] [.int (Int32.ofNat (l.getD (h0 + k) 32)), .int (gF g (fun j => l.getD (h0 + j) 32) k (k / 4) <<< (Int32.ofNat 8 &&& 31)), .int (Int32.ofNat (k / 4)), .ref q] m = runL e (dN e (d + 2)) 187 u 2 [some (.ref x), some (.ref r), some (.ref q), some (.int (Int32.ofNat h0)), some (.int (Int32.ofNat (k + 1)))] [] mm := by
      intro u
      rw [q187_4]
      show (sI e m 0 q (Int32.ofNat (k / 4)) (pk (gF g (fun j => l.getD (h0 + j) 32) k (k / 4)) (l.getD (h0 + k) 32))).bind _ = _
      rw [hst, bd_s, nAdd]
    have z4 : ¬ Int32.ofNat 4 = Int32.ofNat 0 := by decide +kernel
    by_cases c : h0 + k < l.length
    · obtain ⟨t', b1, b2⟩ := a4 (t + 1)
      refine ⟨t', by omega, ?_⟩
      rw [show t + 3 * (n + 1) + 1 = (t + 1 + 3 * n + 1) + 1 + 1 by omega, q187_2, if_pos (by rw [nLt (by omega) (by omega)]; omega), if_neg z4, if_neg z4, nDiv (by omega) (by omega), ai5 hq (by omega), bd_s, s387 (d := d) T1, kI_r, nAdd, if_pos (by rw [nLt (by omega) (by omega)]; exact c), s389 (d := d) T1 c (by omega) (gd_lt hv), kI_r, ← gd32 c, four, b2]
    · obtain ⟨t', b1, b2⟩ := a4 t
      refine ⟨t', b1, ?_⟩
      have f32 := gd32_n c
      have four' := four (t + 3 * n + 1)
      rw [f32] at four'
      rw [show t + 3 * (n + 1) + 1 = (t + 3 * n + 1) + 1 + 1 + 1 by omega, q187_2, if_pos (by rw [nLt (by omega) (by omega)]; omega), if_neg z4, if_neg z4, nDiv (by omega) (by omega), ai5 hq (by omega), bd_s, s387 (d := d) T1, kI_r, nAdd, if_neg (by rw [nLt (by omega) (by omega)]; exact c), q187_3, four', b2]
/-- so many rounds are told -/
def FD (x q : Nat) (l : List Nat) (R H S : bX) (Ar : Nat → bX) (m0 : dMem) (j : Nat) (m : dMem) : Prop := ∃ I g, hSys x R I H S Ar m ∧ I.1 1 1 = Int32.ofNat (20 * j) ∧ (∀ k, k < 20 * j → I.1 2 k = sg8 (l.getD k 32)) ∧ m.1 q = some (.inl (0, 5, .inl g)) ∧ (∀ p, p < x ∨ x + 259 ≤ p → p ≠ q → m.1 p = m0.1 p) ∧ m.2 = m0.2
theorem fd_round {R H S : bX} {Ar : Nat → bX} {m0 : dMem} {j : Nat} (he : e.1 ≤ x) (hq : x + 259 ≤ q) (T : hS2 (fun p => x + 259 ≤ p ∧ p < q) m0 r l) (hl : l.length ≤ 450) (hv : ∀ v, v ∈ l → v < 128) (Z : FD x q l R H S Ar m0 j m) (hj : 20 * j < l.length) : ∃ m', FD x q l R H S Ar m0 (j + 1) m' ∧ ∀ t, ∃ t', t ≤ t' ∧ runL e (dN e (d + 2)) 187 (t + 100) 1 [some (.ref x), some (.ref r), some (.ref q), some (.int (Int32.ofNat (20 * j))), none] [] m = runL e (dN e (d + 2)) 187 t' 1 [some (.ref x), some (.ref r), some (.ref q), some (.int (Int32.ofNat (20 * (j + 1)))), none] [] m' := by
  obtain ⟨I, g, z1, z2, z3, z4, z5, z6⟩ := Z
  have T1 : hS2 (fun p => x + 259 ≤ p ∧ p < q) m r l := T.fr (fun p hp => z5 p (Or.inr hp.1) (by omega))
  obtain ⟨w, T2⟩ := T1.s1
  obtain ⟨m1, a1, a2, a3, a4⟩ := fd_in (e := e) (d := d) (x := x) (r := r) (q := q) (l := l) (g := g) (P := fun p => x + 259 ≤ p ∧ p < q) (h0 := 20 * j) (by omega) (by omega) (by omega) hv (by omega) 20 0 m rfl (by rw [gF_0]; exact z4) T1
  have S1 : hSys x R I H S Ar m1 := sys_eq z1 (fun p h1 h2 => a2 p (by omega))
  obtain ⟨I', b1, b2, b3, -⟩ := a88_0 (e := e) (d := d) he S1.1 S1.2.1 z2 (by omega) (B := fun k => l.getD k 32) z3 (gF g (fun k => l.getD (20 * j + k) 32) 20)
  have S2 := sys_I S1 I'
  refine ⟨ov TI 6 (x + 1) I' m1, ⟨I', _, S2, by rw [b2]; congr 1, fun k hk => ?_, (ov_out (by omega)).trans a1, fun p h1 h2 => (ov_out (by omega)).trans ((a2 p h2).trans (z5 p h1 h2)), a3.trans z6⟩, fun t => ?_⟩
  · rw [b3 k (by omega)]
    congr 1
    unfold apB
    by_cases c : k < 20 * j
    · rw [if_pos c]
    · rw [if_neg c]
      unfold gF
      rw [show min 4 (20 - 4 * ((k - 20 * j) / 4)) = 4 by omega, bv_pw (fun i => gd32_b hv _) (by omega)]
      rw [show 20 * j + (4 * ((k - 20 * j) / 4) + (k - 20 * j) % 4) = k by omega]
  · obtain ⟨t', c1, c2⟩ := a4 (t + 38)
    obtain ⟨u, rfl⟩ : ∃ u, t' = u + 1 + 1 := ⟨t' - 2, by omega⟩
    refine ⟨u, by omega, ?_⟩
    rw [show t + 100 = (t + 38 + 3 * 20 + 1) + 1 by omega, q187_1, s387 (d := d) T2, kI_r, if_pos (by rw [nLt (by omega) (by omega)]; exact hj), c2, q187_5, ai5 a1 (by omega), bd_s, ai5 a1 (by omega), bd_s, ai5 a1 (by omega), bd_s, ai5 a1 (by omega), bd_s, ai5 a1 (by omega), bd_s, b1, kI_r, if_neg (by rw [nLt (by omega) (by omega)]; omega), q187_6, nAdd, show 20 * j + 20 = 20 * (j + 1) by omega]
theorem fd_all {R H S : bX} {Ar : Nat → bX} {m0 : dMem} (he : e.1 ≤ x) (hq : x + 259 ≤ q) (T : hS2 (fun p => x + 259 ≤ p ∧ p < q) m0 r l) (hl : l.length ≤ 450) (hv : ∀ v, v ∈ l → v < 128) : ∀ n j m, FD x q l R H S Ar m0 j m → l.length ≤ 20 * j + 20 * n → 20 * j < l.length + 20 → ∃ j' m', FD x q l R H S Ar m0 j' m' ∧ l.length ≤ 20 * j' ∧ 20 * j' < l.length + 20 ∧ ∀ t, 100 * n + 10 ≤ t → runL e (dN e (d + 2)) 187 t 1 [some (.ref x), some (.ref r), some (.ref q), some (.int (Int32.ofNat (20 * j))), none] [] m = rI (bI true) m' := by
  intro n
  induction n with
  | zero =>
    intro j m Z h1 h2
    refine ⟨j, m, Z, by omega, h2, fun t ht => ?_⟩
    obtain ⟨I, g, z1, z2, z3, z4, z5, z6⟩ := Z
    obtain ⟨w, T2⟩ := (T.fr (fun p hp => z5 p (Or.inr hp.1) (by omega))).s1
    obtain ⟨u, rfl⟩ : ∃ u, t = u + 1 + 1 := ⟨t - 2, by omega⟩
    rw [q187_1, s387 (d := d) T2, kI_r, if_neg (by rw [nLt (by omega) (by omega)]; omega), q187_7, rZ_1]
  | succ n ih =>
    intro j m Z h1 h2
    by_cases c : 20 * j < l.length
    · obtain ⟨m1, Z1, g1⟩ := fd_round (d := d) he hq T hl hv Z c
      obtain ⟨j', m', y1, y2, y3, y4⟩ := ih (j + 1) m1 Z1 (by omega) (by omega)
      refine ⟨j', m', y1, y2, y3, fun t ht => ?_⟩
      obtain ⟨u, rfl⟩ : ∃ u, t = u + 100 := ⟨t - 100, by omega⟩
      obtain ⟨t', a1, a2⟩ := g1 u
      rw [a2]
      exact y4 t' (by omega)
    · refine ⟨j, m, Z, by omega, h2, fun t ht => ?_⟩
      obtain ⟨I, g, z1, z2, z3, z4, z5, z6⟩ := Z
      obtain ⟨w, T2⟩ := (T.fr (fun p hp => z5 p (Or.inr hp.1) (by omega))).s1
      obtain ⟨u, rfl⟩ : ∃ u, t = u + 1 + 1 := ⟨t - 2, by omega⟩
      rw [q187_1, s387 (d := d) T2, kI_r, if_neg (by rw [nLt (by omega) (by omega)]; omega), q187_7, rZ_1]
/-- the text is appended -/
theorem t_feeds {R I H S : bX} {Ar : Nat → bX} (he : e.1 ≤ x) (Z : hSys x R I H S Ar m) (h0 : I.1 1 1 = Int32.ofNat 0) (hm : x + 259 ≤ m.2.1) (T : hS2 (fun p => x + 259 ≤ p ∧ p < m.2.1) m r l) (hl : l.length ≤ 450) (hv : ∀ v, v ∈ l → v < 128) : ∃ j' m', dN e (d + 3) 187 [.ref x, .ref r] m = rI (bI true) m' ∧ FD x m.2.1 l R H S Ar (nA m 0 5) j' m' ∧ l.length ≤ 20 * j' ∧ 20 * j' < l.length + 20 := by
  have low : ∀ p, p < m.2.1 → (nA m 0 5).1 p = m.1 p := fun p hp => nA_n (by omega)
  have T1 : hS2 (fun p => x + 259 ≤ p ∧ p < m.2.1) (nA m 0 5) r l := T.fr (fun p hp => low p hp.2)
  have F0 : FD x m.2.1 l R H S Ar (nA m 0 5) 0 (nA m 0 5) := ⟨I, fun _ => 0, sys_eq Z (fun p h1 h2 => low p (by omega)), h0, fun k hk => by omega, nA_s, fun _ _ _ => rfl, rfl⟩
  obtain ⟨j', m', y1, y2, y3, y4⟩ := fd_all (d := d) he hm T1 hl hv 30 0 _ F0 (by omega) (by omega)
  refine ⟨j', m', ?_, y1, y2, y3⟩
  refine en187 fun t ht => ?_
  obtain ⟨u, rfl⟩ := fu 9 ht rfl
  rw [q187_0, if_pos (by decide +kernel)]
  exact y4 _ (by omega)
/-- the text is told: the object holds the rows that the text tells -/
theorem t_tell {R I H S : bX} {Ar : Nat → bX} {h s : sV} {y n k0 c0 : Nat} (he : e.1 ≤ x) (Z : hSys x R I H S Ar m) (KH : HisOK H k0 c0) (h0 : I.1 1 1 = Int32.ofNat 0) (hm : x + 259 ≤ m.2.1) (T : hS2 (fun p => x + 259 ≤ p ∧ p < m.2.1) m r l) (hl : l.length ≤ 450) (hv : ∀ v, v ∈ l → v < 128) (St : hSt e x m) (PP : PT l s h y n) : ∃ m' R' I' H' S' Ar', dN e (d + 17) 188 [.ref x, .ref r] m = rI (s 1) m' ∧ hSys x R' I' H' S' Ar' m' ∧ I'.1 0 2 = Int32.ofNat 0 ∧ I'.1 0 3 = nM1 ∧ CLA e x (2500 + y) h s m' ∧ (∀ p, p < x ∨ (x + 259 ≤ p ∧ p < m.2.1) → m'.1 p = m.1 p) ∧ m'.2 = (m.2.1 + 1, m.2.2 + 5) := by
  obtain ⟨j, m1, g1, F, f1, f2⟩ := t_feeds (d := d + 13) he Z h0 hm T hl hv
  obtain ⟨I1, g, z1, z2, z3, z4, z5, z6⟩ := F
  have low : ∀ p, p < x ∨ (x + 259 ≤ p ∧ p < m.2.1) → m1.1 p = m.1 p := fun p hp => (z5 p (by omega) (by omega)).trans (nA_n (by omega))
  have St1 : hSt e x m1 := St.fr (fun p hp => low p (Or.inl hp))
  obtain ⟨w, T2⟩ := (T.fr (m2 := m1) (fun p hp => low p (Or.inr hp))).s1
  obtain ⟨Tk, t1, t2, t3, L⟩ := a89 (e := e) (d := d) he z1 z2 (by omega) (k := l.length) f1 (B := fun k => l.getD k 32) (fun i => gd32_b hv i) z3 St1
  have B0 : BY Tk 0 l := ⟨by rw [t3]; omega, fun i hi => by rw [t2, Nat.zero_add]; exact gd32 hi⟩
  obtain ⟨c, hc⟩ := PT_end PP t1 B0 t3
  have L1 := L zS zS
  rw [hc] at L1
  obtain ⟨m2, I2, Ar2, b1, b2, b3, b4, b5, b6, b7, b8, b9, b10⟩ := L1
  refine ⟨m2, _, I2, _, _, Ar2, ?_, b2, b7, b8, ⟨_, I2, _, _, Ar2, k0, 0, b2, ⟨?_, KH.2.1, ?_, by omega⟩, ?_, b3⟩, fun p hp => (b9 p (by omega)).trans (low p hp), ?_⟩
  · refine en188 fun t ht => ?_
    obtain ⟨u, rfl⟩ := fu 9 ht rfl
    rw [q188_0, g1, kI_r, if_neg (by decide +kernel), s387 (d := d + 14) T2, kI_r, b1, kI_r, q188_2]
  · rw [uA_s, wr_n (by omega)]
    exact KH.1
  · rw [uA_s, wr_s]
  · rw [uA_s, wr_s]
  · rw [b10, z6]
    rfl
end
end

/-! ===== a number's digits ===== -/
noncomputable section
def digF : Nat → Nat → List Nat
  | 0, v => [48 + v % 10]
  | f + 1, v => if v < 10 then [48 + v % 10] else digF f (v / 10) ++ [48 + v % 10]
/-- the decimal digits of a number, as letters -/
def dig (v : Nat) : List Nat := digF v v
theorem digF_ir : ∀ f g v : Nat, v ≤ f → v ≤ g → digF f v = digF g v := by
  intro f
  induction f with
  | zero =>
    intro g v h1 h2
    have : v = 0 := by omega
    subst this
    cases g with
    | zero => rfl
    | succ g => exact (if_pos (by omega)).symm
  | succ f ih =>
    intro g v h1 h2
    cases g with
    | zero =>
      have : v = 0 := by omega
      subst this
      exact if_pos (by omega)
    | succ g =>
      show (if v < 10 then [48 + v % 10] else digF f (v / 10) ++ [48 + v % 10]) = (if v < 10 then [48 + v % 10] else digF g (v / 10) ++ [48 + v % 10])
      by_cases q : v < 10
      · rw [if_pos q, if_pos q]
      · rw [if_neg q, if_neg q, ih g (v / 10) (by omega) (by omega)]
theorem dig_1 {v : Nat} (h : v < 10) : dig v = [48 + v] := by
  unfold dig
  rw [digF_ir v (v + 1) v (Nat.le_refl _) (by omega)]
  show (if v < 10 then [48 + v % 10] else _) = _
  rw [if_pos h, Nat.mod_eq_of_lt h]
theorem dig_2 {v : Nat} (h : 10 ≤ v) : dig v = dig (v / 10) ++ [48 + v % 10] := by
  unfold dig
  rw [digF_ir v (v + 1) v (Nat.le_refl _) (by omega), digF_ir (v / 10) v (v / 10) (Nat.le_refl _) (by omega)]
  show (if v < 10 then [48 + v % 10] else digF v (v / 10) ++ [48 + v % 10]) = _
  rw [if_neg (by omega)]
theorem dgN_1 {v : Nat} (h : v < 10) : dgN v = 1 := if_pos h
theorem dgN_2 {v : Nat} (h : 10 ≤ v) (h2 : v < 1000000) : dgN v = dgN (v / 10) + 1 := by
  unfold dgN
  repeat' split
  all_goals omega
theorem dgN_b {v : Nat} (h2 : v < 1000000) : 1 ≤ dgN v ∧ dgN v ≤ 6 := by
  unfold dgN
  repeat' split
  all_goals omega
theorem dig_len : ∀ n v : Nat, v ≤ n → v < 1000000 → (dig v).length = dgN v := by
  intro n
  induction n with
  | zero =>
    intro v h1 h2
    rw [dig_1 (by omega), dgN_1 (by omega)]
    rfl
  | succ n ih =>
    intro v h1 h2
    by_cases q : v < 10
    · rw [dig_1 q, dgN_1 q]
      rfl
    · rw [dig_2 (by omega), dgN_2 (by omega) h2, List.length_append, ih (v / 10) (by omega) (by omega)]
      rfl
theorem dig_n {v : Nat} (h : v < 1000000) : (dig v).length = dgN v := dig_len v v (Nat.le_refl _) h
theorem dig_lt' : ∀ n v : Nat, v ≤ n → ∀ u, u ∈ dig v → u < 128 := by
  intro n
  induction n with
  | zero =>
    intro v h1 u hu
    rw [dig_1 (by omega)] at hu
    have := List.mem_singleton.mp hu
    omega
  | succ n ih =>
    intro v h1 u hu
    by_cases q : v < 10
    · rw [dig_1 q] at hu
      have := List.mem_singleton.mp hu
      omega
    · rw [dig_2 (by omega)] at hu
      rcases List.mem_append.mp hu with r | r
      · exact ih (v / 10) (by omega) u r
      · have := List.mem_singleton.mp r
        omega
theorem dig_lt {v u : Nat} (h : u ∈ dig v) : u < 128 := dig_lt' v v (Nat.le_refl _) u h
/-- the tables of digits -/
def hDig (e : dEnv) (x : Nat) (m : dMem) : Prop := e.2 1000 < x ∧ e.2 1001 < x ∧ ∀ r, r < 100 → aI m 3 (e.2 1000) (Int32.ofNat r) = some (Int32.ofNat (48 + r % 10)) ∧ aI m 3 (e.2 1001) (Int32.ofNat r) = some (Int32.ofNat (48 + r / 10))
theorem aI_fr {m m2 : dMem} {a k : Nat} {i : Int32} (h : m2.1 a = m.1 a) : aI m2 k a i = aI m k a i := by
  unfold aI
  rw [h]
theorem hDig.fr {e : dEnv} {x : Nat} {m m2 : dMem} (Z : hDig e x m) (h : ∀ q, q < x → m2.1 q = m.1 q) : hDig e x m2 := ⟨Z.1, Z.2.1, fun r hr => ⟨(aI_fr (h _ Z.1)).trans (Z.2.2 r hr).1, (aI_fr (h _ Z.2.1)).trans (Z.2.2 r hr).2⟩⟩
/-! numbers below zero -/
theorem ngDiv {v : Nat} (h : v < 1000000) : (-(Int32.ofNat v)) / (Int32.ofNat 100) = -(Int32.ofNat (v / 100)) := by
  apply Int32.toInt_inj.mp
  rw [Int32.toInt_div, ngI (by omega), ngI (by omega), nToI (by omega), Int.neg_tdiv]
  have e1 : (v : Int).tdiv ((100 : Nat) : Int) = ((v / 100 : Nat) : Int) := rfl
  rw [e1, Int.bmod_def]
  split <;> omega
theorem ngMod {v : Nat} (h : v < 1000000) : (-(Int32.ofNat (v / 100))) * (Int32.ofNat 100) - (-(Int32.ofNat v)) = Int32.ofNat (v % 100) := by
  apply Int32.toInt_inj.mp
  rw [Int32.toInt_sub, Int32.toInt_mul, ngI (by omega), ngI (by omega), nToI (by omega), nToI (by omega), Int.bmod_def, Int.bmod_def]
  repeat' split
  all_goals omega
theorem ngNg {v : Nat} (h : v < 1000000) : -(-(Int32.ofNat v)) = Int32.ofNat v := by
  apply Int32.toInt_inj.mp
  rw [Int32.toInt_neg, ngI (by omega), nToI (by omega), Int.bmod_def]
  split <;> omega
theorem ngLt {v : Nat} (h : v < 1000000) : (-(Int32.ofNat v) < Int32.ofNat 4294967287) = (9 < v) := by
  rw [Int32.lt_iff_toInt_lt, ngI (by omega), show (Int32.ofNat 4294967287).toInt = -9 from by decide +kernel]
  exact propext ⟨fun q => by omega, fun q => by omega⟩
section
variable {e : dEnv} {d p L : Nat} {m : dMem}
/-- an array of bytes is written -/
theorem sB {w : Nat → Int32} {j v : Nat} (Z : m.1 p = some (.inl (3, L, .inl w))) (hj : j < L) (hL : L < 100000) (hv : v < 128) (he : e.1 ≤ p) : ∃ m2, sI e m 3 p (Int32.ofNat j) (Int32.ofNat v) = some m2 ∧ m2.1 p = some (.inl (3, L, .inl (dFun w j (Int32.ofNat v)))) ∧ (∀ q, q ≠ p → m2.1 q = m.1 q) ∧ m2.2 = m.2 := by
  have qi : (Int32.ofNat j).toInt = (j : Int) := nToI (by omega)
  refine ⟨dUp m p (.inl (3, L, .inl (dFun w j (Int32.ofNat v)))), ?_, ?_, fun q hq => ?_, rfl⟩
  · unfold sI
    simp only [Z, qi]
    rw [if_pos ⟨trivial, he, by omega, by omega⟩]
    have : cvI 3 (Int32.ofNat v) = Int32.ofNat v := ch8 hv
    rw [this]
    rfl
  · show (if p = p then _ else _) = _
    rw [if_pos rfl]
  · show (if q = p then _ else m.1 q) = _
    rw [if_neg hq]
theorem nPred {j : Nat} (h : 0 < j) : Int32.ofNat j + nM1 = Int32.ofNat (j - 1) := nDec h
theorem n384_3 (hL : L < 100000) (he : e.1 ≤ p) (x : Nat) (hx : x ≤ p) : ∀ n v : Nat, v ≤ n → v < 1000000 → ∀ (j : Nat) (w : Nat → Int32) (m : dMem), hDig e x m → m.1 p = some (.inl (3, L, .inl w)) → j ≤ L → dgN v ≤ j → ∃ m2 w2, (∀ t, v + 5 ≤ t → runL e (dN e d) 384 t 3 [some (.int (-(Int32.ofNat v))), none, some (.ref p), none, none, some (.int (Int32.ofNat j)), some (.int (Int32.ofNat 0))] [] m = rI (Int32.ofNat (j - dgN v)) m2) ∧ m2.1 p = some (.inl (3, L, .inl w2)) ∧ (∀ q, q ≠ p → m2.1 q = m.1 q) ∧ m2.2 = m.2 ∧ (∀ i, i < j - dgN v ∨ j ≤ i → w2 i = w i) ∧ ∀ i, i < dgN v → w2 (j - dgN v + i) = Int32.ofNat ((dig v).getD i 0) := by
  intro n
  induction n with
  | zero =>
    intro v h1 h2 j w m D Z hj hd
    have v0 : v = 0 := by omega
    subst v0
    have g1 : dgN 0 = 1 := rfl
    rw [g1] at hd ⊢
    obtain ⟨m2, b1, b2, b3, b4⟩ := sB (e := e) (j := j - 1) (v := 48 + 0 % 10) Z (by omega) hL (by omega) he
    refine ⟨m2, _, fun t ht => ?_, b2, b3, b4, fun i hi => ?_, fun i hi => ?_⟩
    · obtain ⟨u, rfl⟩ : ∃ u, t = u + 5 := ⟨t - 5, by omega⟩
      rw [q384_3, if_pos (by decide +kernel), q384_4, ngNg (by omega), (D.2.2 0 (by omega)).1]
      simp only [bd_s]
      rw [nPred (by omega), b1]
      simp only [bd_s]
      rw [if_neg (by decide +kernel), q384_5, if_pos (by trivial), q384_6]
    · unfold dFun
      rw [if_neg (by omega)]
    · have i0 : i = 0 := by omega
      subst i0
      unfold dFun
      rw [if_pos (by omega), dig_1 (by omega)]
      rfl
  | succ n ih =>
    intro v h1 h2 j w m D Z hj hd
    have hm10 : v % 10 < 10 := Nat.mod_lt _ (by omega)
    rcases Nat.lt_or_ge v 10 with c1 | c1
    · rw [dgN_1 c1] at hd ⊢
      obtain ⟨m2, b1, b2, b3, b4⟩ := sB (e := e) (j := j - 1) (v := 48 + v % 10) Z (by omega) hL (by omega) he
      refine ⟨m2, _, fun t ht => ?_, b2, b3, b4, fun i hi => ?_, fun i hi => ?_⟩
      · obtain ⟨u, rfl⟩ : ∃ u, t = u + 5 := ⟨t - 5, by omega⟩
        rw [q384_3, if_pos (by rw [cmK (N := 100) (by omega) (by decide +kernel)]; omega), q384_4, ngNg (by omega), (D.2.2 v (by omega)).1]
        simp only [bd_s]
        rw [nPred (by omega), b1]
        simp only [bd_s]
        rw [if_neg (by rw [ngLt (by omega)]; omega), q384_5, if_pos (by trivial), q384_6]
      · unfold dFun
        rw [if_neg (by omega)]
      · have i0 : i = 0 := by omega
        subst i0
        unfold dFun
        rw [if_pos (by omega), dig_1 c1, Nat.mod_eq_of_lt c1]
        rfl
    · have e10 : dig v = dig (v / 10) ++ [48 + v % 10] := dig_2 c1
      have n10 := dgN_2 c1 h2
      rcases Nat.lt_or_ge v 100 with c2 | c2
      · have e1 : dgN (v / 10) = 1 := dgN_1 (by omega)
        rw [n10, e1] at hd ⊢
        obtain ⟨m1, b1, b2, b3, b4⟩ := sB (e := e) (j := j - 1) (v := 48 + v % 10) Z (by omega) hL (by omega) he
        obtain ⟨m2, c1', c2', c3, c4⟩ := sB (e := e) (j := j - 1 - 1) (v := 48 + v / 10) b2 (by omega) hL (by omega) he
        have D1 : hDig e x m1 := D.fr (fun q hq => b3 q (by omega))
        refine ⟨m2, _, fun t ht => ?_, c2', fun q hq => (c3 q hq).trans (b3 q hq), c4.trans b4, fun i hi => ?_, fun i hi => ?_⟩
        · obtain ⟨u, rfl⟩ : ∃ u, t = u + 5 := ⟨t - 5, by omega⟩
          rw [q384_3, if_pos (by rw [cmK (N := 100) (by omega) (by decide +kernel)]; omega), q384_4, ngNg (by omega), (D.2.2 v (by omega)).1]
          simp only [bd_s]
          rw [nPred (by omega), b1]
          simp only [bd_s]
          rw [if_pos (by rw [ngLt (by omega)]; omega), (D1.2.2 v (by omega)).2]
          simp only [bd_s]
          rw [nPred (by omega), c1']
          simp only [bd_s]
          rw [q384_5, if_pos (by trivial), q384_6, show j - 1 - 1 = j - (1 + 1) by omega]
        · unfold dFun
          rw [if_neg (by omega), if_neg (by omega)]
        · rw [e10, dig_1 (v := v / 10) (by omega)]
          unfold dFun
          have : i = 0 ∨ i = 1 := by omega
          rcases this with z | z <;> subst z
          · rw [if_pos (by omega)]
            rfl
          · rw [if_neg (by omega), if_pos (by omega)]
            rfl
      · have c10 : 10 ≤ v / 10 := by omega
        have e100 : dig (v / 10) = dig (v / 10 / 10) ++ [48 + v / 10 % 10] := dig_2 c10
        have n100 := dgN_2 c10 (by omega)
        have dd : v / 10 / 10 = v / 100 := by omega
        rw [dd] at e100 n100
        have hn := dgN_b (v := v / 100) (by omega)
        have lk := dig_n (v := v / 100) (by omega)
        rw [n10, n100] at hd ⊢
        obtain ⟨m1, b1, b2, b3, b4⟩ := sB (e := e) (j := j - 1) (v := 48 + v % 100 % 10) Z (by omega) hL (by omega) he
        obtain ⟨m2, c1', c2', c3, c4⟩ := sB (e := e) (j := j - 1 - 1) (v := 48 + v % 100 / 10) b2 (by omega) hL (by omega) he
        have D1 : hDig e x m1 := D.fr (fun q hq => b3 q (by omega))
        have D2 : hDig e x m2 := D1.fr (fun q hq => c3 q (by omega))
        obtain ⟨m3, w3, r1, r2, r3, r4, r5, r6⟩ := ih (v / 100) (by omega) (by omega) (j - 1 - 1) _ m2 D2 c2' (by omega) (by omega)
        refine ⟨m3, w3, fun t ht => ?_, r2, fun q hq => (r3 q hq).trans ((c3 q hq).trans (b3 q hq)), r4.trans (c4.trans b4), fun i hi => ?_, fun i hi => ?_⟩
        · obtain ⟨u, rfl⟩ : ∃ u, t = u + 5 := ⟨t - 5, by omega⟩
          rw [q384_3, if_neg (by rw [cmK (N := 100) (by omega) (by decide +kernel)]; omega), if_neg (by decide +kernel), ngDiv h2, ngMod h2, (D.2.2 (v % 100) (by omega)).1]
          simp only [bd_s]
          rw [nPred (by omega), b1]
          simp only [bd_s]
          rw [(D1.2.2 (v % 100) (by omega)).2]
          simp only [bd_s]
          rw [nPred (by omega), c1']
          simp only [bd_s]
          rw [r1 _ (by omega), show j - 1 - 1 - dgN (v / 100) = j - (dgN (v / 100) + 1 + 1) by omega]
        · rw [r5 i (by omega)]
          unfold dFun
          rw [if_neg (by omega), if_neg (by omega)]
        · rw [e10, e100]
          rcases Nat.lt_or_ge i (dgN (v / 100)) with k1 | k1
          · have := r6 i k1
            rw [show j - (dgN (v / 100) + 1 + 1) + i = j - 1 - 1 - dgN (v / 100) + i by omega, this, gd_app2 (by rw [List.length_append]; omega), gd_app2 (by omega)]
          · rw [r5 _ (by omega)]
            unfold dFun
            have : i = dgN (v / 100) ∨ i = dgN (v / 100) + 1 := by omega
            rcases this with z | z
            · rw [if_pos (by omega), gd_app2 (by rw [List.length_append]; show i < _ + 1; omega), z, ← lk, gd_last, show v % 100 / 10 = v / 10 % 10 by omega]
            · rw [if_neg (by omega), if_pos (by omega), z, ← lk]
              have e5 : (dig (v / 100)).length + 1 = (dig (v / 100) ++ [48 + v / 10 % 10]).length := by rw [List.length_append]; rfl
              rw [e5, gd_last, show v % 100 % 10 = v % 10 by omega]
end
end

/-! ===== the text that the law writes, token by token (pure) ===== -/
noncomputable section
/-- from p on stand the letters w -/
def BY (T : dTok) (p : Nat) (w : List Nat) : Prop := p + w.length ≤ tE T ∧ ∀ j, j < w.length → tB T (p + j) = w.getD j 0
theorem BY_l {T : dTok} {p : Nat} {u v : List Nat} (Z : BY T p (u ++ v)) : BY T p u := by
  have h := Z.1
  rw [List.length_append] at h
  refine ⟨by omega, fun j hj => ?_⟩
  rw [Z.2 j (by rw [List.length_append]; omega), gd_app2 hj]
theorem BY_r {T : dTok} {p : Nat} {u v : List Nat} (Z : BY T p (u ++ v)) : BY T (p + u.length) v := by
  have h := Z.1
  rw [List.length_append] at h
  refine ⟨by omega, fun j hj => ?_⟩
  rw [Nat.add_assoc, Z.2 (u.length + j) (by rw [List.length_append]; omega), gd_app3]
theorem BY_h {T : dTok} {p v : Nat} {r : List Nat} (Z : BY T p (v :: r)) : tB T p = v ∧ p < tE T ∧ BY T (p + 1) r := by
  have h := Z.1
  have e : (v :: r).length = r.length + 1 := rfl
  refine ⟨Z.2 0 (by omega), by omega, by omega, fun j hj => ?_⟩
  rw [Nat.add_assoc, Nat.add_comm 1 j]
  exact Z.2 (j + 1) (by omega)
theorem ckS32 : ck 32 = 3 := by decide
/-- the tokens up to c are read and end before p; the next one begins at p or behind -/
def RD (T : dTok) (c p : Nat) : Prop := c + 1 < tN T ∧ tPl T c + tL T c ≤ p ∧ p ≤ tPl T (c + 1)
theorem tk_last {T : dTok} {c : Nat} (Z : TOK T) (h1 : c < tN T) (h2 : ¬ c + 1 < tN T) : tPl T c = tE T ∧ tK T c = 0 := by
  obtain ⟨⟨a1, a2, a3, a4, a5, a6⟩, -⟩ := Z
  have : c = tN T - 1 := by omega
  rw [this]
  exact ⟨a5, a4⟩
theorem RD_sp {T : dTok} {c p : Nat} {r : List Nat} (Z : TOK T) (R : RD T c p) (B : BY T p (32 :: r)) : RD T c (p + 1) ∧ BY T (p + 1) r := by
  obtain ⟨b1, b2, b3⟩ := BY_h B
  obtain ⟨r1, r2, r3⟩ := R
  refine ⟨⟨r1, by omega, ?_⟩, b3⟩
  rcases Nat.eq_or_lt_of_le r3 with q | q
  · exfalso
    by_cases h2 : c + 1 + 1 < tN T
    · obtain ⟨k1, k2, k3, k4, -⟩ := Z.2.1 (c + 1) h2
      have h0 := k4 0 (by omega)
      rw [Nat.add_zero, ← q, b1, ckS32] at h0
      omega
    · have := (tk_last Z r1 h2).1
      omega
  · omega
/-- the next token begins at p -/
theorem RD_at {T : dTok} {c p v : Nat} (Z : TOK T) (R : RD T c p) (hb : tB T p = v) (hp : p < tE T) (hv : ck v ≠ 3) : c + 2 < tN T ∧ tPl T (c + 1) = p ∧ tK T (c + 1) = ck v := by
  obtain ⟨r1, r2, r3⟩ := R
  have hpl : tPl T (c + 1) = p := by
    rcases Nat.eq_or_lt_of_le r3 with q | q
    · exact q.symm
    · obtain ⟨-, -, -, -, -, -, k7, -⟩ := Z.2.1 c r1
      have h0 := k7 p r2 q
      rw [hb] at h0
      rw [h0] at hv
      exact absurd ckS32 hv
  have h2 : c + 1 + 1 < tN T := by
    by_cases h2 : c + 1 + 1 < tN T
    · exact h2
    · have := (tk_last Z r1 h2).1
      omega
  obtain ⟨k1, k2, k3, k4, -⟩ := Z.2.1 (c + 1) h2
  have h0 := k4 0 (by omega)
  rw [Nat.add_zero, hpl, hb] at h0
  exact ⟨h2, hpl, h0.symm⟩
/-- the token c is the letters w from p on, of kind K -/
def TKN (T : dTok) (c p : Nat) (w : List Nat) (K : Nat) : Prop := c + 1 < tN T ∧ tK T c = K ∧ tPl T c = p ∧ tL T c = w.length ∧ BY T p w
theorem RD_w {T : dTok} {c p K : Nat} {w : List Nat} (Z : TOK T) (R : RD T c p) (B : BY T p w) (hK : K = 1 ∨ K = 2) (hw : ∀ v, v ∈ w → ck v = K) (h1 : 1 ≤ w.length) (hE : p + w.length = tE T ∨ ck (tB T (p + w.length)) ≠ K) : TKN T (c + 1) p w K ∧ RD T (c + 1) (p + w.length) := by
  have hb := B.2
  have hl := B.1
  have gm : ∀ j, j < w.length → ck (w.getD j 0) = K := fun j hj => by
    rw [List.getD_eq_getElem?_getD, List.getElem?_eq_getElem hj]
    exact hw _ (List.getElem_mem hj)
  obtain ⟨t1, t2, t3⟩ := RD_at Z R (hb 0 (by omega)) (by omega) (by rw [gm 0 (by omega)]; omega)
  rw [gm 0 (by omega)] at t3
  obtain ⟨k1, k2, k3, k4, k5, k6, k7, k8⟩ := Z.2.1 (c + 1) t1
  rw [t2] at k3 k4 k6 k7 k8
  rw [t3] at k4 k8
  have hlen : tL T (c + 1) = w.length := by
    rcases Nat.lt_trichotomy (tL T (c + 1)) w.length with q | q | q
    · exact absurd (by rw [hb _ q]; exact gm _ q) (k8 hK (by omega))
    · exact q
    · rcases hE with z | z
      · omega
      · exact absurd (k4 _ q) z
  exact ⟨⟨t1, t3, t2, hlen, B⟩, t1, by omega, by omega⟩
theorem RD_s {T : dTok} {c p v : Nat} {r : List Nat} (Z : TOK T) (R : RD T c p) (B : BY T p (v :: r)) (hv : ck v = 59 ∨ ck v = 40 ∨ ck v = 41) : c + 2 < tN T ∧ tK T (c + 1) = ck v ∧ RD T (c + 1) (p + 1) ∧ BY T (p + 1) r := by
  obtain ⟨b1, b2, b3⟩ := BY_h B
  obtain ⟨t1, t2, t3⟩ := RD_at Z R b1 b2 (by omega)
  obtain ⟨k1, k2, k3, k4, k5, k6, k7, k8⟩ := Z.2.1 (c + 1) t1
  have hl := k5 (by omega) (by omega)
  exact ⟨t1, t3, ⟨t1, by omega, by omega⟩, b3⟩
/-- a word, a number, and what follows -/
theorem st_w {T : dTok} {c p v : Nat} {w r : List Nat} (Z : TOK T) (R : RD T c p) (B : BY T p (w ++ v :: r)) (hw : ∀ v, v ∈ w → ck v = 1) (h1 : 1 ≤ w.length) (hv : ck v ≠ 1) : TKN T (c + 1) p w 1 ∧ RD T (c + 1) (p + w.length) ∧ BY T (p + w.length) (v :: r) := by
  have b := BY_r B
  obtain ⟨a1, a2⟩ := RD_w (K := 1) Z R (BY_l B) (Or.inl rfl) hw h1 (Or.inr (by rw [(BY_h b).1]; exact hv))
  exact ⟨a1, a2, b⟩
theorem dig_ck : ∀ n v : Nat, v ≤ n → ∀ u, u ∈ dig v → 48 ≤ u ∧ u ≤ 57 := by
  intro n
  induction n with
  | zero =>
    intro v h1 u hu
    rw [dig_1 (by omega)] at hu
    have := List.mem_singleton.mp hu
    omega
  | succ n ih =>
    intro v h1 u hu
    by_cases q : v < 10
    · rw [dig_1 q] at hu
      have := List.mem_singleton.mp hu
      omega
    · rw [dig_2 (by omega)] at hu
      rcases List.mem_append.mp hu with r | r
      · exact ih (v / 10) (by omega) u r
      · have := List.mem_singleton.mp r
        omega
theorem ck_dig {v u : Nat} (h : u ∈ dig v) : ck u = 2 := by
  have := dig_ck v v (Nat.le_refl _) u h
  unfold ck
  rw [if_neg (by omega), if_pos (by omega)]
theorem st_n {T : dTok} {c p n v : Nat} {r : List Nat} (Z : TOK T) (R : RD T c p) (B : BY T p (dig n ++ v :: r)) (hn : n < 10000) (hv : ck v ≠ 2) : TKN T (c + 1) p (dig n) 2 ∧ RD T (c + 1) (p + (dig n).length) ∧ BY T (p + (dig n).length) (v :: r) := by
  have b := BY_r B
  have hl := dig_n (v := n) (by omega)
  have hb := dgN_b (v := n) (by omega)
  obtain ⟨a1, a2⟩ := RD_w (K := 2) Z R (BY_l B) (Or.inr rfl) (fun u hu => ck_dig hu) (by omega) (Or.inr (by rw [(BY_h b).1]; exact hv))
  exact ⟨a1, a2, b⟩
/-- behind a line: the end, or a semicolon -/
def EDs (T : dTok) (p : Nat) : Prop := p = tE T ∨ tB T p = 59
theorem EDs.ne {T : dTok} {p K : Nat} (Z : EDs T p) (hK : K = 1 ∨ K = 2) : p = tE T ∨ ck (tB T p) ≠ K := by
  rcases Z with z | z
  · exact Or.inl z
  · refine Or.inr ?_
    rw [z]
    have : ck 59 = 59 := by decide
    omega
theorem ed_w {T : dTok} {c p : Nat} {w : List Nat} (Z : TOK T) (R : RD T c p) (B : BY T p w) (hw : ∀ v, v ∈ w → ck v = 1) (h1 : 1 ≤ w.length) (E : EDs T (p + w.length)) : TKN T (c + 1) p w 1 ∧ RD T (c + 1) (p + w.length) := RD_w Z R B (Or.inl rfl) hw h1 (E.ne (Or.inl rfl))
theorem ed_n {T : dTok} {c p n : Nat} (Z : TOK T) (R : RD T c p) (B : BY T p (dig n)) (hn : n < 10000) (E : EDs T (p + (dig n).length)) : TKN T (c + 1) p (dig n) 2 ∧ RD T (c + 1) (p + (dig n).length) := by
  have hl := dig_n (v := n) (by omega)
  have hb := dgN_b (v := n) (by omega)
  exact RD_w Z R B (Or.inr rfl) (fun u hu => ck_dig hu) (by omega) (E.ne (Or.inr rfl))
theorem RD_nx {T : dTok} {c p : Nat} (R : RD T c p) : nx T c = c + 1 := if_pos R.1
theorem TKN.nx {T : dTok} {c p K : Nat} {w : List Nat} (R : TKN T c p w K) : nx T c = c + 1 := if_pos R.1
/-- what stands behind a line is no word -/
theorem ed_k {T : dTok} {c p : Nat} (Z : TOK T) (R : RD T c p) (E : EDs T p) : (p = tE T → tK T (c + 1) = 0) ∧ (tB T p = 59 → p < tE T → tK T (c + 1) = 59) ∧ tK T (c + 1) ≠ 1 := by
  have k0 : p = tE T → tK T (c + 1) = 0 := by
    intro hp
    by_cases h2 : c + 1 + 1 < tN T
    · obtain ⟨k1, k2, k3, -⟩ := Z.2.1 (c + 1) h2
      have := R.2.2
      omega
    · exact (tk_last Z R.1 h2).2
  have k1 : tB T p = 59 → p < tE T → tK T (c + 1) = 59 := by
    intro h1 h2
    have := (RD_at Z R h1 h2 (by decide)).2.2
    rw [this]
    decide
  refine ⟨k0, k1, ?_⟩
  by_cases hp : p < tE T
  · rcases E with z | z
    · omega
    · rw [k1 z hp]; decide
  · have r3 := R.2.2
    have hp2 : p = tE T := by
      by_cases h2 : c + 1 + 1 < tN T
      · obtain ⟨q1, q2, q3, -⟩ := Z.2.1 (c + 1) h2
        omega
      · have := (tk_last Z R.1 h2).1
        omega
    rw [k0 hp2]
    decide
/-! words and numbers of tokens -/
def eqW (u w : List Nat) : Bool := decide (u.length = w.length) && !anyB w.length fun j => !decide (u.getD j 0 = w.getD j 0)
theorem isW_t {T : dTok} {c p : Nat} {u w : List Nat} (Z : TKN T c p u 1) : isW T c w = eqW u w := by
  obtain ⟨z1, z2, z3, z4, z5, z6⟩ := Z
  unfold isW eqW
  rw [z2, decide_eq_true rfl, Bool.true_and, z4, z3]
  by_cases q : u.length = w.length
  · rw [anyB_congr (q := fun j => !decide (u.getD j 0 = w.getD j 0)) (fun j hj => by rw [z6 j (by omega)])]
  · rw [decide_eq_false q]
    rfl
theorem isW_k {T : dTok} {c : Nat} {w : List Nat} (h : tK T c ≠ 1) : isW T c w = false := by
  unfold isW
  rw [decide_eq_false h]
  rfl
theorem kd_n {T : dTok} {c : Nat} (h : tK T c ≠ 1) (h2 : tK T c ≠ 2) : kd T c = tK T c := by
  unfold kd
  rw [if_neg (by omega)]
theorem kd_w {T : dTok} {c p : Nat} {w : List Nat} (Z : TKN T c p w 1) (h : w.length ≤ 7) : kd T c = 1 := by
  obtain ⟨z1, z2, z3, z4, z5⟩ := Z
  unfold kd
  rw [if_neg (by omega), z2]
def vlL : List Nat → Nat → Nat
  | [], a => a
  | v :: r, a => vlL r (a * 10 + (v - 48))
theorem vlL_app {u v : List Nat} : ∀ {a : Nat}, vlL (u ++ v) a = vlL v (vlL u a) := by
  induction u with
  | nil => intro a; rfl
  | cons x u ih => intro a; exact ih
theorem vl_dig : ∀ n v : Nat, v ≤ n → vlL (dig v) 0 = v := by
  intro n
  induction n with
  | zero =>
    intro v h1
    rw [dig_1 (by omega)]
    show 0 * 10 + (48 + v - 48) = v
    omega
  | succ n ih =>
    intro v h1
    by_cases q : v < 10
    · rw [dig_1 q]
      show 0 * 10 + (48 + v - 48) = v
      omega
    · rw [dig_2 (by omega), vlL_app, ih (v / 10) (by omega)]
      show v / 10 * 10 + (48 + v % 10 - 48) = v
      omega
theorem vlK_L {T : dTok} {c p : Nat} : ∀ (n : Nat) (w : List Nat), w.length = n → tPl T c = p → BY T p w → vlK T c n = vlL w 0 := by
  intro n
  induction n with
  | zero =>
    intro w hw _ _
    rw [List.length_eq_zero_iff.mp hw]
    rfl
  | succ n ih =>
    intro w hw hp B
    have hne : w ≠ [] := fun q => by rw [q] at hw; cases hw
    have e1 := List.dropLast_concat_getLast hne
    have l1 : w.dropLast.length = n := by rw [List.length_dropLast]; omega
    rw [← e1] at B
    have := ih w.dropLast l1 hp (BY_l B)
    have b2 := (BY_h (BY_r B)).1
    rw [l1] at b2
    show vlK T c n * 10 + (tB T (tPl T c + n) - 48) = _
    rw [this, hp, b2]
    conv => rhs; rw [← e1, vlL_app]
    rfl
theorem num_t {T : dTok} {c p n : Nat} (Z : TKN T c p (dig n) 2) (hn : n < 10000) : kd T c = 2 ∧ vl T c = n := by
  obtain ⟨z1, z2, z3, z4, z5⟩ := Z
  have hl := dig_n (v := n) (by omega)
  have h4 : dgN n ≤ 4 := by
    unfold dgN
    repeat' split
    all_goals omega
  refine ⟨?_, ?_⟩
  · unfold kd
    rw [if_neg (by omega), z2]
  · unfold vl
    rw [z4, vlK_L (dig n).length (dig n) rfl z3 z5, vl_dig n n (Nat.le_refl _)]
theorem pNum_t {T : dTok} {c p n lo : Nat} {hi : Int} (Z : TKN T c p (dig n) 2) (hn : n < 10000) (h1 : lo ≤ n) (h2 : (n : Int) ≤ hi) : pNum T c lo hi = .inr n := by
  obtain ⟨k1, k2⟩ := num_t Z hn
  unfold pNum
  rw [k1, k2, decide_eq_true rfl, pC_t, decide_eq_true h1, decide_eq_true h2]
  rfl
def nmE (w : List Nat) (i : Nat) : Int32 := if i < w.length then Int32.ofNat (w.getD i 0) else Int32.ofNat 0
theorem nmL_t {T : dTok} {c p i K : Nat} {w : List Nat} (Z : TKN T c p w K) : nmL T c i = nmE w i := by
  obtain ⟨z1, z2, z3, z4, z5, z6⟩ := Z
  unfold nmL nmE
  rw [z4, z3]
  by_cases q : i < w.length
  · rw [if_pos q, if_pos q, z6 i q]
  · rw [if_neg q, if_neg q]
end

/-! ===== the items of a line, as the class reads them ===== -/
noncomputable section
theorem pNum_r {T : dTok} {c lo v : Nat} {hi : Int} (h : pNum T c lo hi = .inr v) : kd T c = 2 ∧ v = vl T c ∧ lo ≤ v ∧ (v : Int) ≤ hi := by
  unfold pNum at h
  by_cases q1 : kd T c = 2
  · rw [decide_eq_true q1, pC_t] at h
    by_cases q2 : lo ≤ vl T c
    · by_cases q3 : (vl T c : Int) ≤ hi
      · rw [decide_eq_true q2, decide_eq_true q3] at h
        have : vl T c = v := Sum.inr.inj h
        rw [← this]
        exact ⟨q1, rfl, q2, q3⟩
      · rw [decide_eq_false q3, Bool.and_false] at h
        cases h
    · rw [decide_eq_false q2, Bool.false_and] at h
      cases h
  · rw [decide_eq_false q1] at h
    cases h
theorem pB_i {α β : Type} {r : dErr ⊕ α} {f : α → dErr ⊕ β} {b : β} (h : pBn r f = .inr b) : ∃ a, r = .inr a ∧ f a = .inr b := by
  cases r with
  | inl x => cases h
  | inr a => exact ⟨a, rfl, h⟩
theorem pC_i {β : Type} {b : Bool} {k c : Nat} {r : dErr ⊕ β} {v : β} (h : pC b k c r = .inr v) : b = true ∧ r = .inr v := by
  cases b with
  | false => cases h
  | true => exact ⟨rfl, h⟩
theorem upF_congr {α : Type} {f g : Nat → α → α} {s : α} : ∀ {n : Nat}, (∀ i x, i < n → f i x = g i x) → upF f n s = upF g n s
  | 0, _ => rfl
  | n + 1, h => by
    rw [upF_s, upF_s, upF_congr (n := n) (fun i x hi => h i x (by omega)), h n _ (by omega)]
theorem nmL_i {T : dTok} {c i : Nat} (h : i < tL T c) : nmL T c i = Int32.ofNat (tB T (tPl T c + i)) := if_pos h
theorem nmL_o {T : dTok} {c i : Nat} (h : tL T c ≤ i) : nmL T c i = Int32.ofNat 0 := if_neg (by omega)
theorem nmW_i {T : dTok} {c p i : Nat} {h : sV} (hi : i < 6) : nmW T c h p (p + i) = nmL T c i := by
  unfold nmW
  rw [if_pos (by omega), Nat.add_sub_cancel_left]
theorem nmW_o {T : dTok} {c p q : Nat} {h : sV} (hq : q < p ∨ p + 6 ≤ q) : nmW T c h p q = h q := if_neg (by omega)
theorem or0 (x : Int64) (n : Int64) : x ||| ((Int32.ofNat 0).toInt64 <<< n) = x := by
  have h : (Int32.ofNat 0).toInt64 = 0 := by decide +kernel
  rw [h, Int64.zero_shiftLeft, Int64.or_zero]
theorem nm_W {T : dTok} {c p : Nat} {h : sV} (Z : TOK T) (hl : c < tN T) (hk : tK T c = 1) : WN (nmW T c h p) p := by
  have hb := Z.b hl
  refine ⟨fun i hi => ?_, ?_, fun i hi hz => ?_⟩
  · rw [nmW_i hi]
    by_cases q : i < tL T c
    · have := Z.word hl hk q
      rw [nmL_i q]
      exact okI_of (by omega) (by omega) (by omega)
    · rw [nmL_o (by omega)]
      exact okI_of (by omega) (by omega) (by omega)
  · have := Z.word hl hk (j := 0) (by omega)
    have e0 := nmW_i (T := T) (c := c) (p := p) (h := h) (i := 0) (by omega)
    rw [Nat.add_zero] at e0
    rw [e0, nmL_i (by omega), Nat.add_zero]
    intro q
    rw [Nat.add_zero] at this
    have q2 : (Int32.ofNat (tB T (tPl T c)) = Int32.ofNat 0) = (tB T (tPl T c) = 0) := nEq (by omega) (by omega)
    rw [q2] at q
    omega
  · rw [nmW_i (by omega)] at hz
    rw [nmW_i (by omega)]
    by_cases q : i < tL T c
    · have := Z.word hl hk q
      rw [nmL_i q, nEq (by omega) (by omega)] at hz
      omega
    · exact nmL_o (by omega)
theorem nm_pk {T : dTok} {c p : Nat} {h : sV} (hL : tL T c ≤ 6) : nmQ T c (tL T c) = pkN (nmW T c h p) p := by
  unfold pkN
  have key : ∀ n, n ≤ 6 → upF (fun i (x : Int64) => x ||| ((nmW T c h p (p + i)).toInt64 <<< ((Int32.ofNat 8 * Int32.ofNat i).toInt64 &&& 63))) n 0 = nmQ T c (if n ≤ tL T c then n else tL T c) := by
    intro n
    induction n with
    | zero =>
      intro _
      rw [if_pos (Nat.zero_le _)]
      rfl
    | succ n ih =>
      intro hn
      rw [upF_s, ih (by omega), nmW_i (by omega)]
      by_cases q : n + 1 ≤ tL T c
      · rw [if_pos (by omega), if_pos q, nmL_i (by omega)]
        rfl
      · rw [if_neg q, nmL_o (by omega), or0]
        by_cases q2 : n ≤ tL T c
        · rw [if_pos q2, show n = tL T c by omega]
        · rw [if_neg q2]
  rw [key 6 (Nat.le_refl _)]
  by_cases q : 6 ≤ tL T c
  · rw [if_pos q, show tL T c = 6 by omega]
  · rw [if_neg q]
theorem pkN_eq {h g : sV} {p q : Nat} (W1 : WN h p) (W2 : WN g q) : (pkN h p = pkN g q) = (∀ i, i < 6 → h (p + i) = g (q + i)) := by
  refine propext ⟨fun e i hi => ?_, fun e => ?_⟩
  · have a1 := pk_let W1 hi
    have a2 := pk_let W2 hi
    rw [e] at a1
    exact a1.symm.trans a2
  · unfold pkN
    exact upF_congr (fun i x hi => by rw [e i hi])
theorem has_eq {T : dTok} {c p : Nat} {h : sV} (Z : TOK T) (hl : c < tN T) (hk : tK T c = 1) (hL : tL T c ≤ 6) (W : WN h p) : decide (pkN h p = nmQ T c (tL T c)) = !anyB 6 fun i => !decide (h (p + i) = nmL T c i) := by
  have e1 := nm_pk (T := T) (c := c) (p := 0) (h := h) hL
  have e2 := nm_W (T := T) (c := c) (p := 0) (h := h) Z hl hk
  have e3 := pkN_eq W e2
  rw [e1]
  cases q : anyB 6 (fun i => !decide (h (p + i) = nmL T c i)) with
  | false =>
    have := anyB_no.mp q
    refine decide_eq_true ?_
    rw [e3]
    intro i hi
    have t := this i hi
    rw [nmW_i hi]
    rcases Decidable.em (h (p + i) = nmL T c i) with z | z
    · exact z
    · have t2 : (!decide (h (p + i) = nmL T c i)) = false := t
      rw [decide_eq_false z] at t2
      cases t2
  | true =>
    obtain ⟨i, hi, t⟩ := anyB_iff.mp q
    refine decide_eq_false ?_
    rw [e3]
    intro z
    have z2 := z i hi
    rw [nmW_i hi] at z2
    have t2 : (!decide (h (p + i) = nmL T c i)) = true := t
    rw [decide_eq_true z2] at t2
    cases t2
/-- an item's answer -/
def itR (T : dTok) (a : Nat) (I : bX) (c : Nat) (m : dMem) (r : dErr ⊕ Nat) : Option dRes := match r with
  | .inl x => erR T a I x m
  | .inr v => rI (Int32.ofNat v) (ov TI 6 a (setC I c) m)
section
variable {e : dEnv} {d a c x Y : Nat} {T : dTok} {I A : bX} {h s : sV} {m : dMem}
theorem kV_er {y : dErr} (k : dMem → Option dRes) : kV (erR T a I y m) dPass k = erR T a I y m := rfl
theorem kI_er {y : dErr} (k : Int32 → dMem → Option dRes) : kI (erR T a I y m) dPass k = erR T a I y m := rfl
theorem kL_er {y : dErr} (k : Int64 → dMem → Option dRes) : kL (erR T a I y m) dPass k = erR T a I y m := rfl
theorem itR_C {c' : Nat} {r : dErr ⊕ Nat} : itR T a (setC I c) c' (ov TI 6 a (setC I c) m) r = itR T a I c' m r := by
  cases r with
  | inl y => exact erR_C
  | inr v =>
    show rI _ (ov TI 6 a (setC (setC I c) c') (ov TI 6 a (setC I c) m)) = rI _ (ov TI 6 a (setC I c') m)
    rw [setC_C, ov_ov]
theorem n74 (he : e.1 ≤ a) (hI : hB TI 6 a I m) (Z : TKI T I) (hc : I.1 1 6 = Int32.ofNat c) (hl : c < tN T) {lo : Nat} {hi : Int32} (hlo : lo < 100000) : dN e (d + 2) 74 [.ref a, .int (Int32.ofNat lo), .int hi] m = itR T a I (nx T c) m (pNum T (nx T c) lo hi.toInt) := by
  have hI1 : hB TI 6 a (setC I (nx T c)) (ov TI 6 a (setC I (nx T c)) m) := hB_ov
  have Z1 := setC_TK (c := nx T c) Z
  have hc1 := setC_c (I := I) (c := nx T c)
  have hl1 := nx_lt hl
  have g53 := n53 (e := e) (d := d) he hI Z hc hl
  have g54 := n54 (e := e) (d := d) hI1 Z1 hc1 hl1
  refine en74 (hI_c0 hI) fun t ht => ?_
  obtain ⟨u, rfl⟩ := fu 9 ht rfl
  unfold pNum
  rw [q74_0]
  (try rw [hI_r0_0 hI])
  (try simp only [bd_s])
  rw [g53, kV_r]
  (try rw [hI_r0_0 hI1])
  (try simp only [bd_s])
  rw [g54, kI_r]
  have hkd : kd T (nx T c) < 100 := by
    have hb := Z.1.b hl1
    unfold kd
    split <;> omega
  by_cases q1 : kd T (nx T c) = 2
  · have g56 := n56 (e := e) (d := d) hI1 Z1 hc1 hl1 q1
    have vb := (vl_b Z.1 hl1 q1).2.2
    rw [if_pos (by rw [q1]), q74_2, decide_eq_true q1, pC_t, n60_1 hI1, kV_r]
    (try rw [hI_r0_0 hI1])
    (try simp only [bd_s])
    rw [g56, kI_r]
    by_cases q2 : lo ≤ vl T (nx T c)
    · rw [if_neg (by rw [nLt (by omega) (by omega)]; omega), decide_eq_true q2, Bool.true_and]
      by_cases q3 : (vl T (nx T c) : Int) ≤ hi.toInt
      · rw [if_neg (by rw [Int32.lt_iff_toInt_lt, nToI (by omega)]; omega), q74_4, n60_1 hI1, kV_r, decide_eq_true q3, pC_t]
        rfl
      · rw [if_pos (by rw [Int32.lt_iff_toInt_lt, nToI (by omega)]; omega), q74_3, q74_4, n60_0 he hI1 Z1 hc1 hl1, kV_er, erR_C, decide_eq_false q3, pC_f]
        rfl
    · rw [if_pos (by rw [nLt (by omega) (by omega)]; omega), q74_3, q74_4, n60_0 he hI1 Z1 hc1 hl1, kV_er, erR_C, decide_eq_false q2, Bool.false_and, pC_f]
      rfl
  · rw [if_neg (by rw [nEq (by omega) (by omega)]; exact q1), q74_1, q74_2, n60_0 he hI1 Z1 hc1 hl1, kV_er, erR_C, decide_eq_false q1, pC_f]
    rfl
theorem hiI {n : Nat} (h : n < 100000) : (Int32.ofNat n - Int32.ofNat 1).toInt = (n : Int) - 1 := sbI (by omega) (by omega)
theorem n77 (he : e.1 ≤ a) (hI : hB TI 6 a I m) (hA : hB TA 19 (a + 6) A m) (W : OK0 Y A h s) (Z : TKI T I) (hc : I.1 1 6 = Int32.ofNat c) (hl : c < tN T) : dN e (d + 3) 77 [.ref a] m = itR T a I (nx T c) m (pKept T (nx T c) s) := by
  obtain ⟨n, n1, n2, n3⟩ := W.nb
  have hI1 : hB TI 6 a (setC I (nx T c)) (ov TI 6 a (setC I (nx T c)) m) := hB_ov
  have hA1 : hB TA 19 (a + 6) A (ov TI 6 a (setC I (nx T c)) m) := hB_other hA (by omega)
  have Z1 := setC_TK (c := nx T c) Z
  have hc1 := setC_c (I := I) (c := nx T c)
  have hl1 := nx_lt hl
  have g := n74 (e := e) (d := d) he hI Z hc hl (lo := 0) (hi := Int32.ofNat n - Int32.ofNat 1) (by omega)
  rw [hiI (by omega)] at g
  refine en77 (hI_c0 hI) fun t ht => ?_
  obtain ⟨u, rfl⟩ := fu 9 ht rfl
  unfold pKept pBox
  rw [n2, q77_0]
  (try rw [hI_r0_1 hI])
  (try simp only [bd_s])
  (try rw [hA_g0_13 hA, n1])
  (try simp only [bd_s])
  rw [g]
  cases hr : pNum T (nx T c) 0 ((n : Int) - 1) with
  | inl y => rfl
  | inr v =>
    obtain ⟨-, -, -, r4⟩ := pNum_r hr
    have hk : v < nbS s := by omega
    have gd := k_dest (e := e) (a := a + 6) (d := d + 1) (m := ov TI 6 a (setC I (nx T c)) m) W hk
    rw [ov_self hA1] at gd
    show kI (rI (Int32.ofNat v) (ov TI 6 a (setC I (nx T c)) m)) _ _ = _
    rw [kI_r]
    (try rw [hI_r0_1 hI1, pB_r])
    (try simp only [bd_s])
    rw [gd, kI_r]
    cases hg : gonB s v with
    | false =>
      rw [if_pos (by decide +kernel), q77_2, n60_1 (d := d + 1) hI1, kV_r]
      rfl
    | true =>
      rw [if_neg (by decide +kernel), q77_1, q77_2, n60_0 (d := d + 1) he hI1 Z1 hc1 hl1, kV_er, erR_C]
      rfl
def frR (T : dTok) (a : Nat) (I : bX) (m : dMem) (r : dErr ⊕ (Nat × Nat)) : Option dRes := match r with
  | .inl x => erR T a I x m
  | .inr v => rI (Int32.ofNat v.1) (ov TI 6 a (setC I v.2) m)
theorem OK0.sh (W : OK0 Y A h s) : ∃ n, A.1 0 15 = Int32.ofNat n ∧ h 0 = Int32.ofNat n ∧ nN (h 0) = n ∧ 1 ≤ n ∧ n ≤ 6 := by
  obtain ⟨n, h1, h2, h3, h4⟩ := W.2.2.1.ex
  exact ⟨n, W.1.2.2.1.1.trans h1, h1, h2, h3, h4⟩
theorem n78 (he : e.1 ≤ a) (hI : hB TI 6 a I m) (hA : hB TA 19 (a + 6) A m) (W : OK0 Y A h s) (Z : TKI T I) (hc : I.1 1 6 = Int32.ofNat c) (hl : c < tN T) : dN e (d + 3) 78 [.ref a] m = frR T a I m (pFree T c s h) := by
  obtain ⟨n, n1, n2, n3, n4, n5⟩ := W.sh
  obtain ⟨P, p1, p2, p3, p4, p5⟩ := W.pl
  have hI1 : hB TI 6 a (setC I (nx T c)) (ov TI 6 a (setC I (nx T c)) m) := hB_ov
  have hA1 : hB TA 19 (a + 6) A (ov TI 6 a (setC I (nx T c)) m) := hB_other hA (by omega)
  have Z1 := setC_TK (c := nx T c) Z
  have hc1 := setC_c (I := I) (c := nx T c)
  have hl1 := nx_lt hl
  have hI2 : hB TI 6 a (setC I (nx T (nx T c))) (ov TI 6 a (setC I (nx T (nx T c))) m) := hB_ov
  have hA2 : hB TA 19 (a + 6) A (ov TI 6 a (setC I (nx T (nx T c))) m) := hB_other hA (by omega)
  have Z2 := setC_TK (c := nx T (nx T c)) Z
  have hc2 := setC_c (I := I) (c := nx T (nx T c))
  have hl2 := nx_lt hl1
  have g := n74 (e := e) (d := d) he hI Z hc hl (lo := 0) (hi := Int32.ofNat n - Int32.ofNat 1) (by omega)
  rw [hiI (by omega)] at g
  have g2 := n74 (e := e) (d := d) he hI1 Z1 hc1 hl1 (lo := 0) (hi := Int32.ofNat P - Int32.ofNat 1) (by omega)
  rw [hiI (by omega), itR_C] at g2
  refine en78 (hI_c0 hI) fun t ht => ?_
  obtain ⟨u, rfl⟩ := fu 9 ht rfl
  unfold pFree
  rw [n3, p3, q78_0]
  (try rw [hI_r0_1 hI])
  (try simp only [bd_s])
  (try rw [hA_g0_15 hA, n1])
  (try simp only [bd_s])
  rw [g]
  cases hr : pNum T (nx T c) 0 ((n : Int) - 1) with
  | inl y => rfl
  | inr i =>
    show kI (rI (Int32.ofNat i) (ov TI 6 a (setC I (nx T c)) m)) _ _ = _
    rw [kI_r]
    (try rw [hI_r0_1 hI1, pB_r])
    (try simp only [bd_s])
    (try rw [hA_g0_16 hA1, p1])
    (try simp only [bd_s])
    rw [g2]
    cases hr2 : pNum T (nx T (nx T c)) 0 ((P : Int) - 1) with
    | inl y => rfl
    | inr j =>
      obtain ⟨-, -, -, r4⟩ := pNum_r hr
      obtain ⟨-, -, -, r5⟩ := pNum_r hr2
      have gm := k_mark (e := e) (a := a + 6) (d := d + 1) (m := ov TI 6 a (setC I (nx T (nx T c))) m) W (x := i) (y := j)
      have gb := k_boxOn (e := e) (a := a + 6) (d := d + 1) (m := ov TI 6 a (setC I (nx T (nx T c))) m) W (x := Int32.ofNat (i * P + j))
      rw [ov_self hA2, p3] at gm
      rw [ov_self hA2] at gb
      show kI (rI (Int32.ofNat j) (ov TI 6 a (setC I (nx T (nx T c))) m)) _ _ = _
      rw [kI_r]
      (try rw [hI_r0_1 hI2, pB_r])
      (try simp only [bd_s])
      rw [gm, kI_r]
      (try rw [hI_r0_1 hI2])
      (try simp only [bd_s])
      rw [gb, kI_r]
      by_cases q : boxOnS s (Int32.ofNat (i * P + j)) = nM1
      · rw [if_pos q, q78_2, n60_1 (d := d + 1) hI2, kV_r, decide_eq_true q, pC_t]
        rfl
      · rw [if_neg q, q78_1, q78_2, n60_0 (d := d + 1) he hI2 Z2 hc2 hl2, kV_er, erR_C, decide_eq_false q, pC_f]
        rfl
theorem n76 {sa : Nat} {w : List Nat} (he : e.1 ≤ a) (hI : hB TI 6 a I m) (Z : TKI T I) (hc : I.1 1 6 = Int32.ofNat c) (hl : c < tN T) (S : hS1 x m sa w) (hx : x ≤ a) (hw : w.length ≤ 7) (hv : ∀ v, v ∈ w → v < 128) : dN e (d + 4) 76 [.ref a, .ref sa] m = rI (bI (isW T (nx T c) w)) (ov TI 6 a (setC I (bif isW T (nx T c) w then nx T c else c)) m) := by
  have hI1 : hB TI 6 a (setC I (nx T c)) (ov TI 6 a (setC I (nx T c)) m) := hB_ov
  have Z1 := setC_TK (c := nx T c) Z
  have hc1 := setC_c (I := I) (c := nx T c)
  have hl1 := nx_lt hl
  have S1 : hS1 x (ov TI 6 a (setC I (nx T c)) m) sa w := S.fr (fun q hq => ov_out (by omega))
  have g53 := n53 (e := e) (d := d + 2) he hI Z hc hl
  have g55 := n55 (e := e) (d := d) hI1 Z1 hc1 hl1 S1 hw hv
  have gc : gI m (a + 1) 4 6 = some (Int32.ofNat c) := by rw [hI_g1_6 hI, hc]
  refine en76 (hI_c0 hI) fun t ht => ?_
  obtain ⟨u, rfl⟩ := fu 9 ht rfl
  rw [q76_0]
  (try rw [hI_r0_0 hI])
  (try simp only [bd_s])
  rw [gc]
  (try simp only [bd_s])
  (try rw [hI_r0_0 hI])
  (try simp only [bd_s])
  rw [g53, kV_r]
  (try rw [hI_r0_0 hI1])
  (try simp only [bd_s])
  rw [g55, kI_r]
  cases q : isW T (nx T c) w with
  | true =>
    rw [if_neg (by decide +kernel), q76_1, rZ_b]
    rfl
  | false =>
    rw [if_pos (by decide +kernel)]
    (try rw [hI_r0_0 hI1])
    (try simp only [bd_s])
    rw [I_p1_6 he]
    (try simp only [bd_s])
    rw [q76_1, rZ_b]
    show rI (bI false) (ov TI 6 a (setC (setC I (nx T c)) c) m) = rI (bI false) (ov TI 6 a (setC I c) m)
    rw [setC_C]
def naR (T : dTok) (a : Nat) (I : bX) (c : Nat) (m : dMem) (r : dErr ⊕ Unit) : Option dRes := match r with
  | .inl x => erR T a I x m
  | .inr _ => some (.inl (some (.long (nmQ T c (tL T c)))), ov TI 6 a (setC I c) m)
theorem kd_1 {c : Nat} (h : kd T c = 1) : tK T c = 1 := by
  unfold kd at h
  split at h
  · omega
  · exact h
theorem n75 {na p N : Nat} (he : e.1 ≤ a) (hI : hB TI 6 a I m) (Z : TKI T I) (hc : I.1 1 6 = Int32.ofNat c) (hl : c < tN T) (hN : N ≤ 8) (hf : ∀ k, k < N → aL (ov TI 6 a (setC I (nx T c)) m) 1 na (Int32.ofNat k) = some (pkN h (p + 6 * k)) ∧ WN h (p + 6 * k)) : dN e (d + 3) 75 [.ref a, .ref na, .int (Int32.ofNat N)] m = naR T a I (nx T c) m (pName T (nx T c) h p N) := by
  have hI1 : hB TI 6 a (setC I (nx T c)) (ov TI 6 a (setC I (nx T c)) m) := hB_ov
  have Z1 := setC_TK (c := nx T c) Z
  have hc1 := setC_c (I := I) (c := nx T c)
  have hl1 := nx_lt hl
  have hb := Z.1.b hl1
  obtain ⟨k1, k2, k3⟩ := Z1.2.2.1 (nx T c) hl1
  have g53 := n53 (e := e) (d := d + 1) he hI Z hc hl
  have g54 := n54 (e := e) (d := d + 1) hI1 Z1 hc1 hl1
  have hkd : kd T (nx T c) < 100 := by
    unfold kd
    split <;> omega
  refine en75 (hI_c0 hI) fun t ht => ?_
  obtain ⟨u, rfl⟩ := fu 9 ht rfl
  unfold pName
  rw [q75_0]
  (try rw [hI_r0_0 hI])
  (try simp only [bd_s])
  rw [g53, kV_r]
  (try rw [hI_r0_0 hI1])
  (try simp only [bd_s])
  rw [g54, kI_r]
  by_cases q1 : kd T (nx T c) = 1
  · have hk := kd_1 q1
    rw [if_pos (by rw [q1]), q75_2, decide_eq_true q1, pC_t, n60_1 (d := d + 1) hI1, kV_r]
    (try rw [hI_r0_0 hI1])
    (try simp only [bd_s])
    (try rw [hI_r1_4 hI1])
    (try simp only [bd_s])
    (try rw [hI_r0_0 hI1])
    (try simp only [bd_s])
    (try rw [hI_g1_6 hI1, hc1])
    (try simp only [bd_s])
    (try rw [hI_a5 hI1 (by omega), k3])
    (try simp only [bd_s])
    by_cases q2 : 6 < tL T (nx T c)
    · rw [if_pos (by rw [nLt (by omega) (by omega)]; exact q2), q75_3, q75_4, n60_0 (d := d + 1) he hI1 Z1 hc1 hl1, kV_er, erR_C, decide_eq_true q2, Bool.not_true, Bool.false_and, pC_f]
      rfl
    · have g57 := n57 (e := e) (d := d) hI1 Z1 hc1 hl1 hk
      have g162 := n162 (e := e) (d := d + 1) (a := na) (n := N) (m := ov TI 6 a (setC I (nx T c)) m) (f := fun k => pkN h (p + 6 * k)) (v := nmQ T (nx T c) (tL T (nx T c))) (by omega) (fun k hk => (hf k hk).1)
      have e1 : (anyB N fun k => decide (pkN h (p + 6 * k) = nmQ T (nx T c) (tL T (nx T c)))) = hasN T (nx T c) h p N := by
        unfold hasN
        exact anyB_congr (fun k hk2 => has_eq Z.1 hl1 hk (by omega) (hf k hk2).2)
      rw [e1] at g162
      rw [if_neg (by rw [nLt (by omega) (by omega)]; exact q2), q75_4, n60_1 (d := d + 1) hI1, kV_r]
      (try rw [hI_r0_0 hI1])
      (try simp only [bd_s])
      rw [decide_eq_false q2, Bool.not_false, Bool.true_and]
      (try simp only [bd_s])
      rw [g57, kL_r, g162, kI_r]
      cases q3 : hasN T (nx T c) h p N with
      | false =>
        rw [if_pos (by decide +kernel), q75_6, n60_1 (d := d + 1) hI1, kV_r]
        rfl
      | true =>
        rw [if_neg (by decide +kernel), q75_5, q75_6, n60_0 (d := d + 1) he hI1 Z1 hc1 hl1, kV_er, erR_C]
        rfl
  · rw [if_neg (by rw [nEq (by omega) (by omega)]; exact q1), q75_1, q75_2, n60_0 (d := d + 1) he hI1 Z1 hc1 hl1, kV_er, erR_C, decide_eq_false q1, pC_f]
    rfl
end
end

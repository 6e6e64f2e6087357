/-! ===== numbers, truth values, loops, a method's entry ===== -/
noncomputable section
def nM1 : Int32 := Int32.ofNat 4294967295
def bI (b : Bool) : Int32 := bif b then Int32.ofNat 1 else Int32.ofNat 0
theorem nAdd (a b : Nat) : Int32.ofNat a + Int32.ofNat b = Int32.ofNat (a + b) := (Int32.ofNat_add a b).symm
theorem nMul (a b : Nat) : Int32.ofNat a * Int32.ofNat b = Int32.ofNat (a * b) := (Int32.ofNat_mul a b).symm
theorem nSub {a b : Nat} (h : b ≤ a) : Int32.ofNat a - Int32.ofNat b = Int32.ofNat (a - b) := (Int32.ofNat_sub a b h).symm
theorem nToI {a : Nat} (h : a < 2147483648) : (Int32.ofNat a).toInt = (a : Int) := Int32.toInt_ofNat_of_lt h
theorem nToN {a : Nat} (h : a < 2147483648) : (Int32.ofNat a).toInt.toNat = a := by rw [nToI h]; rfl
theorem nLt {a b : Nat} (ha : a < 2147483648) (hb : b < 2147483648) : (Int32.ofNat a < Int32.ofNat b) = (a < b) := propext (Int32.ofNat_lt_iff_lt ha hb)
theorem nLe {a b : Nat} (ha : a < 2147483648) (hb : b < 2147483648) : (Int32.ofNat a ≤ Int32.ofNat b) = (a ≤ b) := propext (Int32.ofNat_le_iff_le ha hb)
theorem nEq {a b : Nat} (ha : a < 2147483648) (hb : b < 2147483648) : (Int32.ofNat a = Int32.ofNat b) = (a = b) := propext ⟨fun h => by
  have h2 := congrArg (fun x : Int32 => x.toInt.toNat) h
  simpa only [nToN ha, nToN hb] using h2, fun h => congrArg _ h⟩
theorem nM1_i : nM1.toInt = -1 := by decide +kernel
theorem nOfI (x : Int32) : Int32.ofInt x.toInt = x := Int32.ofInt_toInt x
theorem nOfR {x : Int32} (h : 0 ≤ x.toInt) : x = Int32.ofNat x.toInt.toNat := by
  apply Int32.toInt_inj.mp
  have h2 := Int32.toInt_lt x
  have h3 : x.toInt.toNat < 2147483648 := by omega
  rw [nToI h3]
  omega
theorem nEqM {a : Nat} (h : a < 2147483648) : (Int32.ofNat a = nM1) = False := by
  refine eq_false fun q => ?_
  have h2 := congrArg Int32.toInt q
  rw [nToI h, nM1_i] at h2
  omega
theorem nMEq {a : Nat} (h : a < 2147483648) : (nM1 = Int32.ofNat a) = False := by
  refine eq_false fun q => ?_
  have h2 := congrArg Int32.toInt q
  rw [nToI h, nM1_i] at h2
  omega
theorem nMLt {a : Nat} (h : a < 2147483648) : (nM1 < Int32.ofNat a) = True := by
  refine eq_true ?_
  rw [Int32.lt_iff_toInt_lt, nToI h, nM1_i]
  omega
theorem nLtM {a : Nat} (h : a < 2147483648) : (Int32.ofNat a < nM1) = False := by
  refine eq_false fun q => ?_
  rw [Int32.lt_iff_toInt_lt, nToI h, nM1_i] at q
  omega
theorem nMLt0 : (nM1 < nM1) = False := eq_false (Int32.lt_irrefl)
theorem nDec {a : Nat} (h : 0 < a) : Int32.ofNat a + nM1 = Int32.ofNat (a - 1) := by
  rw [← nSub (by omega : 1 ≤ a)]
  have : nM1 = - Int32.ofNat 1 := by decide +kernel
  rw [this, ← Int32.sub_eq_add_neg]
theorem nDiv {a b : Nat} (ha : a < 2147483648) (hb : b < 2147483648) : Int32.ofNat a / Int32.ofNat b = Int32.ofNat (a / b) := (Int32.ofNat_div ha hb).symm
theorem nMod {a b : Nat} (ha : a < 2147483648) (hb : b < 2147483648) : Int32.ofNat a - Int32.ofNat a / Int32.ofNat b * Int32.ofNat b = Int32.ofNat (a % b) := by
  rw [nDiv ha hb, nMul, nSub (Nat.div_mul_le_self a b)]
  congr 1
  have := Nat.div_add_mod a b
  rw [Nat.mul_comm] at this
  omega
theorem nNotLt {x y : Int32} : (¬ x < y) = (y ≤ x) := propext Int32.not_lt
theorem nLt_i {x y : Int32} : (x < y) = (x.toInt < y.toInt) := propext Int32.lt_iff_toInt_lt
theorem bI_t : bI true = Int32.ofNat 1 := rfl
theorem bI_f : bI false = Int32.ofNat 0 := rfl
theorem bI0 (b : Bool) : (bI b = Int32.ofNat 0) = (b = false) := by cases b <;> decide +kernel
theorem bI1 (b : Bool) : (bI b = Int32.ofNat 1) = (b = true) := by cases b <;> decide +kernel
theorem bI01 (b : Bool) : bI b = 0 ∨ bI b = 1 := by cases b <;> decide +kernel
theorem bI_n (b : Bool) : bI b = Int32.ofNat (bif b then 1 else 0) := by cases b <;> rfl
theorem rZ_b (b : Bool) (m : dMem) : rZ (bI b) m = rI (bI b) m := if_pos (bI01 b)
theorem rZ_1 (m : dMem) : rZ (Int32.ofNat 1) m = rI (bI true) m := rZ_b true m
theorem rZ_0 (m : dMem) : rZ (Int32.ofNat 0) m = rI (bI false) m := rZ_b false m
theorem kI_r (x : Int32) (m : dMem) (h : Nat → dMem → Option dRes) (k : Int32 → dMem → Option dRes) : kI (rI x m) h k = k x m := rfl
theorem kI_e (E : Nat) (m : dMem) (h : Nat → dMem → Option dRes) (k : Int32 → dMem → Option dRes) : kI (some (.inr E, m)) h k = h E m := rfl
theorem kV_r (m : dMem) (h : Nat → dMem → Option dRes) (k : dMem → Option dRes) : kV (some (.inl none, m)) h k = k m := rfl
theorem kV_e (E : Nat) (m : dMem) (h : Nat → dMem → Option dRes) (k : dMem → Option dRes) : kV (some (.inr E, m)) h k = h E m := rfl
theorem kL_r (x : Int64) (m : dMem) (h : Nat → dMem → Option dRes) (k : Int64 → dMem → Option dRes) : kL (some (.inl (some (.long x)), m)) h k = k x m := rfl
theorem kL_e (E : Nat) (m : dMem) (h : Nat → dMem → Option dRes) (k : Int64 → dMem → Option dRes) : kL (some (.inr E, m)) h k = h E m := rfl
theorem kR_r (x : Nat) (m : dMem) (h : Nat → dMem → Option dRes) (k : Nat → dMem → Option dRes) : kR (some (.inl (some (.ref x)), m)) h k = k x m := rfl
theorem kF_r (x : UInt32) (m : dMem) (h : Nat → dMem → Option dRes) (k : UInt32 → dMem → Option dRes) : kF (some (.inl (some (.float x)), m)) h k = k x m := rfl
theorem kF_e (E : Nat) (m : dMem) (h : Nat → dMem → Option dRes) (k : UInt32 → dMem → Option dRes) : kF (some (.inr E, m)) h k = h E m := rfl
theorem kD_r (x : UInt64) (m : dMem) (h : Nat → dMem → Option dRes) (k : UInt64 → dMem → Option dRes) : kD (some (.inl (some (.double x)), m)) h k = k x m := rfl
theorem kD_e (E : Nat) (m : dMem) (h : Nat → dMem → Option dRes) (k : UInt64 → dMem → Option dRes) : kD (some (.inr E, m)) h k = h E m := rfl
theorem bd_s {α β : Type} (x : α) (f : α → Option β) : (some x).bind f = f x := rfl
theorem rI_ite {p : Prop} [Decidable p] (x y : Int32) (m : dMem) : (if p then rI x m else rI y m) = rI (if p then x else y) m := by split <;> rfl
theorem bI_ite {p : Prop} [Decidable p] (x y : Bool) : (if p then bI x else bI y) = bI (if p then x else y) := by split <;> rfl
theorem bf_ite {α : Type} (b : Bool) (x y : α) : (if b = false then x else y) = (if b = true then y else x) := by cases b <;> rfl
theorem ite_tf {p : Prop} [Decidable p] : (if p then true else false) = decide p := by by_cases h : p <;> simp [h]
theorem ite_ft {p : Prop} [Decidable p] : (if p then false else true) = !decide p := by by_cases h : p <;> simp [h]
/-- a loop that goes on -/
theorem lp_up {G : Nat → Nat → Option dRes} {c n : Nat} (h : ∀ t k, k < n → G (t + c) k = G t (k + 1)) : ∀ r k t : Nat, k + r = n → c * r ≤ t → G t k = G (t - c * r) n := by
  intro r
  induction r with
  | zero => intro k t hk _; rw [Nat.add_zero] at hk; rw [hk, Nat.mul_zero, Nat.sub_zero]
  | succ r ih =>
    intro k t hk ht
    rw [Nat.mul_succ] at ht ⊢
    have e1 : t = (t - c) + c := by omega
    have := ih (k + 1) (t - c) (by omega) (by omega)
    rw [e1, h _ _ (by omega), this]
    congr 1
    omega
theorem lp_up0 {G : Nat → Nat → Option dRes} {c n : Nat} {r : Option dRes} (h : ∀ t k, k < n → G (t + c) k = G t (k + 1)) (he : ∀ t, G (t + c) n = r) : ∀ t : Nat, c * (n + 1) ≤ t → G t 0 = r := by
  intro t ht
  rw [Nat.mul_succ] at ht
  rw [lp_up h n 0 t (by omega) (by omega)]
  have e1 : t - c * n = (t - c * n - c) + c := by omega
  rw [e1]
  exact he _
/-- the first below n that passes -/
def fndK (p : Nat → Bool) : Nat → Nat → Option Nat
  | 0, _ => none
  | t + 1, k => bif p k then some k else fndK p t (k + 1)
def fnd (n : Nat) (p : Nat → Bool) : Option Nat := fndK p n 0
theorem fndK_some {p : Nat → Bool} : ∀ {t k j : Nat}, fndK p t k = some j → k ≤ j ∧ j < k + t ∧ p j = true ∧ ∀ i, k ≤ i → i < j → p i = false := by
  intro t
  induction t with
  | zero => intro k j h; cases h
  | succ t ih =>
    intro k j h
    unfold fndK at h
    cases hp : p k with
    | true =>
      rw [hp] at h
      simp only [cond_true, Option.some.injEq] at h
      subst h
      exact ⟨Nat.le_refl _, by omega, hp, fun i h1 h2 => by omega⟩
    | false =>
      rw [hp] at h
      simp only [cond_false] at h
      obtain ⟨h1, h2, h3, h4⟩ := ih h
      refine ⟨by omega, by omega, h3, fun i i1 i2 => ?_⟩
      rcases Nat.eq_or_lt_of_le i1 with z | z
      · rw [← z]; exact hp
      · exact h4 i z i2
theorem fndK_none {p : Nat → Bool} : ∀ {t k : Nat}, fndK p t k = none → ∀ i, k ≤ i → i < k + t → p i = false := by
  intro t
  induction t with
  | zero => intro k _ i h1 h2; omega
  | succ t ih =>
    intro k h i h1 h2
    unfold fndK at h
    cases hp : p k with
    | true => rw [hp] at h; cases h
    | false =>
      rw [hp] at h
      rcases Nat.eq_or_lt_of_le h1 with z | z
      · rw [← z]; exact hp
      · exact ih h i z (by omega)
theorem fndK_congr {p q : Nat → Bool} : ∀ {t k : Nat}, (∀ i, k ≤ i → i < k + t → p i = q i) → fndK p t k = fndK q t k := by
  intro t
  induction t with
  | zero => intros; rfl
  | succ t ih =>
    intro k h
    unfold fndK
    rw [h k (Nat.le_refl _) (by omega), ih (fun i h1 h2 => h i (by omega) (by omega))]
theorem fnd_some {n j : Nat} {p : Nat → Bool} (h : fnd n p = some j) : j < n ∧ p j = true ∧ ∀ i, i < j → p i = false := by
  obtain ⟨_, h2, h3, h4⟩ := fndK_some h
  exact ⟨by omega, h3, fun i hi => h4 i (Nat.zero_le _) hi⟩
theorem fnd_none {n : Nat} {p : Nat → Bool} (h : fnd n p = none) : ∀ i, i < n → p i = false := fun i hi => fndK_none h i (Nat.zero_le _) (by omega)
theorem fnd_congr {n : Nat} {p q : Nat → Bool} (h : ∀ i, i < n → p i = q i) : fnd n p = fnd n q := fndK_congr (fun i _ h2 => h i (by omega))
theorem fnd_is {n j : Nat} {p : Nat → Bool} (h1 : j < n) (h2 : p j = true) (h3 : ∀ i, i < j → p i = false) : fnd n p = some j := by
  cases h : fnd n p with
  | none => rw [fnd_none h j h1] at h2; cases h2
  | some i =>
    obtain ⟨a, b, c⟩ := fnd_some h
    rcases Nat.lt_trichotomy i j with z | z | z
    · rw [h3 i z] at b; cases b
    · rw [z]
    · rw [c j z] at h2; cases h2
theorem fnd_isNone {n : Nat} {p : Nat → Bool} (h : ∀ i, i < n → p i = false) : fnd n p = none := by
  cases e : fnd n p with
  | none => rfl
  | some j => obtain ⟨a, b, _⟩ := fnd_some e; rw [h j a] at b; cases b
def oI : Option Nat → Int32
  | some k => Int32.ofNat k
  | none => nM1
def fI (n : Nat) (p : Nat → Bool) : Int32 := oI (fnd n p)
def anyB (n : Nat) (p : Nat → Bool) : Bool := (fnd n p).isSome
theorem lp_findK {G : Nat → Nat → Option dRes} {c n : Nat} {p : Nat → Bool} {r : Nat → Option dRes} {r0 : Option dRes} (hs : ∀ t k, k < n → p k = false → G (t + c) k = G t (k + 1)) (hf : ∀ t k, k < n → p k = true → G (t + c) k = r k) (he : ∀ t, G (t + c) n = r0) :
    ∀ s k t : Nat, k + s = n → c * (s + 1) ≤ t → G t k = (match fndK p s k with | some j => r j | none => r0) := by
  intro s
  induction s with
  | zero =>
    intro k t hk ht
    have e1 : t = (t - c) + c := by omega
    have e2 : k = n := by omega
    rw [e1, e2]
    exact he _
  | succ s ih =>
    intro k t hk ht
    rw [Nat.mul_succ] at ht
    have e1 : t = (t - c) + c := by omega
    unfold fndK
    cases hp : p k with
    | true => rw [e1, hf _ _ (by omega) hp]; rfl
    | false => rw [e1, hs _ _ (by omega) hp, ih (k + 1) (t - c) (by omega) (by omega)]; rfl
theorem lp_find {G : Nat → Nat → Option dRes} {c n : Nat} {p : Nat → Bool} {r : Nat → Option dRes} {r0 : Option dRes} (hs : ∀ t k, k < n → p k = false → G (t + c) k = G t (k + 1)) (hf : ∀ t k, k < n → p k = true → G (t + c) k = r k) (he : ∀ t, G (t + c) n = r0) :
    ∀ t : Nat, c * (n + 1) ≤ t → G t 0 = (match fnd n p with | some j => r j | none => r0) := fun t ht => lp_findK hs hf he n 0 t (by omega) ht
theorem lp_fI {G : Nat → Nat → Option dRes} {c n : Nat} {p : Nat → Bool} {m : dMem} (hs : ∀ t k, k < n → p k = false → G (t + c) k = G t (k + 1)) (hf : ∀ t k, k < n → p k = true → G (t + c) k = rI (Int32.ofNat k) m) (he : ∀ t, G (t + c) n = rI nM1 m) :
    ∀ t : Nat, c * (n + 1) ≤ t → G t 0 = rI (fI n p) m := fun t ht => by
  rw [lp_find hs hf he t ht]
  unfold fI
  cases fnd n p <;> rfl
theorem lp_any {G : Nat → Nat → Option dRes} {c n : Nat} {p : Nat → Bool} {m : dMem} (hs : ∀ t k, k < n → p k = false → G (t + c) k = G t (k + 1)) (hf : ∀ t k, k < n → p k = true → G (t + c) k = rI (bI true) m) (he : ∀ t, G (t + c) n = rI (bI false) m) :
    ∀ t : Nat, c * (n + 1) ≤ t → G t 0 = rI (bI (anyB n p)) m := fun t ht => by
  rw [lp_find hs hf he t ht]
  unfold anyB
  cases fnd n p <;> rfl
/-- how many below n pass -/
def cnt (p : Nat → Bool) : Nat → Nat
  | 0 => 0
  | k + 1 => cnt p k + (bif p k then 1 else 0)
theorem cnt_le (p : Nat → Bool) : ∀ n, cnt p n ≤ n
  | 0 => Nat.le_refl _
  | n + 1 => by
    have := cnt_le p n
    unfold cnt
    cases p n <;> simp only [cond_true, cond_false] <;> omega
theorem cnt_congr {p q : Nat → Bool} : ∀ {n : Nat}, (∀ i, i < n → p i = q i) → cnt p n = cnt q n
  | 0, _ => rfl
  | n + 1, h => by
    unfold cnt
    rw [cnt_congr (fun i hi => h i (by omega)), h n (by omega)]
theorem cnt_add {p q : Nat → Bool} : ∀ {n : Nat}, (∀ i, i < n → q i = !p i) → cnt p n + cnt q n = n
  | 0, _ => rfl
  | n + 1, h => by
    have := cnt_add (n := n) (fun i hi => h i (by omega))
    unfold cnt
    rw [h n (by omega)]
    cases p n <;> simp only [cond_true, cond_false, Bool.not_true, Bool.not_false] <;> omega
def sumI (f : Nat → Int32) : Nat → Int32
  | 0 => Int32.ofNat 0
  | k + 1 => sumI f k + f k
theorem sumI_congr {f g : Nat → Int32} : ∀ {n : Nat}, (∀ i, i < n → f i = g i) → sumI f n = sumI g n
  | 0, _ => rfl
  | n + 1, h => by unfold sumI; rw [sumI_congr (fun i hi => h i (by omega)), h n (by omega)]
def upF {α : Type} (f : Nat → α → α) : Nat → α → α
  | 0, s => s
  | k + 1, s => f k (upF f k s)
theorem dN_go {e : dEnv} {d j : Nat} {as : List Value} {m : dMem} {r : Option dRes} {ls : dLs} (h1 : dRecv j as m = true) (h2 : Nat.ble (dSum as) (dMl j) = true) (h3 : dTr j = false) (h4 : entL as ++ List.replicate (dPad j) none = ls) (h : ∀ t, 3000000 ≤ t → runL e (dN e d) j t 0 ls [] m = r) : dN e (d + 1) j as m = r := by
  have h5 := h dFuel (Nat.le_of_ble_eq_true rfl)
  show (bif dRecv j as m && Nat.ble (dSum as) (dMl j) then dFin (dTr j) (runL e (dN e d) j dFuel 0 (entL as ++ List.replicate (dPad j) none) [] m) else none) = r
  rw [h1, h2, h3, h4, h5]
  rfl
/-- steps ahead -/
theorem fu {t K : Nat} (c : Nat) (h : K ≤ t) (hc : Nat.ble c K = true) : ∃ u, t = u + c := ⟨t - c, by have := Nat.le_of_ble_eq_true hc; omega⟩
end

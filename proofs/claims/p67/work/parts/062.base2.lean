/-! ===== loops whose turns cost more or less ===== -/
noncomputable section
theorem lp_upE {G : Nat → Nat → Option dRes} {c n : Nat} {r : Option dRes} (h : ∀ t k, k < n → ∃ t', t ≤ t' ∧ G (t + c) k = G t' (k + 1)) (he : ∀ t, G (t + c) n = r) : ∀ s k t : Nat, k + s = n → c * (s + 1) ≤ t → G t k = r := by
  intro s
  induction s with
  | zero =>
    intro k t hk ht
    have e1 : t = (t - c) + c := by omega
    rw [e1, show k = n by omega]
    exact he _
  | succ s ih =>
    intro k t hk ht
    rw [Nat.mul_succ] at ht
    have e1 : t = (t - c) + c := by omega
    obtain ⟨t', h1, h2⟩ := h (t - c) k (by omega)
    rw [e1, h2]
    exact ih (k + 1) t' (by omega) (by omega)
theorem lp_up1 {G : Nat → Nat → Option dRes} {c n : Nat} {r : Option dRes} (h : ∀ t k, k < n → ∃ t', t ≤ t' ∧ G (t + c) k = G t' (k + 1)) (he : ∀ t, G (t + c) n = r) (t : Nat) (ht : c * (n + 1) ≤ t) : G t 0 = r := lp_upE h he n 0 t (by omega) ht
theorem lp_findE {G : Nat → Nat → Option dRes} {c n : Nat} {p : Nat → Bool} {r : Nat → Option dRes} {r0 : Option dRes} (hs : ∀ t k, k < n → p k = false → ∃ t', t ≤ t' ∧ G (t + c) k = G t' (k + 1)) (hf : ∀ t k, k < n → p k = true → G (t + c) k = r k) (he : ∀ t, G (t + c) n = r0) :
    ∀ s k t : Nat, k + s = n → c * (s + 1) ≤ t → G t k = (match fndK p s k with | some j => r j | none => r0) := by
  intro s
  induction s with
  | zero =>
    intro k t hk ht
    have e1 : t = (t - c) + c := by omega
    have e2 : k = n := by omega
    rw [e1, e2]
    exact he _
  | succ s ih =>
    intro k t hk ht
    rw [Nat.mul_succ] at ht
    have e1 : t = (t - c) + c := by omega
    unfold fndK
    cases hp : p k with
    | true => rw [e1, hf _ _ (by omega) hp]; rfl
    | false =>
      obtain ⟨t', h1, h2⟩ := hs (t - c) k (by omega) hp
      rw [e1, h2, ih (k + 1) t' (by omega) (by omega)]
      rfl
theorem lp_find1 {G : Nat → Nat → Option dRes} {c n : Nat} {p : Nat → Bool} {r : Nat → Option dRes} {r0 : Option dRes} (hs : ∀ t k, k < n → p k = false → ∃ t', t ≤ t' ∧ G (t + c) k = G t' (k + 1)) (hf : ∀ t k, k < n → p k = true → G (t + c) k = r k) (he : ∀ t, G (t + c) n = r0) (t : Nat) (ht : c * (n + 1) ≤ t) : G t 0 = (match fnd n p with | some j => r j | none => r0) := lp_findE hs hf he n 0 t (by omega) ht
theorem cnt_t {p : Nat → Bool} {k : Nat} (h : p k = true) : cnt p (k + 1) = cnt p k + 1 := by
  show cnt p k + (bif p k then 1 else 0) = _
  rw [h]
  rfl
theorem cnt_f {p : Nat → Bool} {k : Nat} (h : p k = false) : cnt p (k + 1) = cnt p k := by
  show cnt p k + (bif p k then 1 else 0) = _
  rw [h]
  rfl
theorem cnt_0 (p : Nat → Bool) : cnt p 0 = 0 := rfl
theorem upF_0 {α : Type} (f : Nat → α → α) (s : α) : upF f 0 s = s := rfl
theorem upF_s {α : Type} (f : Nat → α → α) (k : Nat) (s : α) : upF f (k + 1) s = f k (upF f k s) := rfl
/-- what each turn keeps, all turns keep -/
theorem upF_inv {α : Type} {f : Nat → α → α} {P : α → Prop} {n : Nat} {s : α} (h0 : P s) (h : ∀ k t, k < n → P t → P (f k t)) : ∀ k, k ≤ n → P (upF f k s)
  | 0, _ => h0
  | k + 1, hk => h k _ (by omega) (upF_inv h0 h k (by omega))
/-- a count goes down when one leaves and none comes -/
theorem cnt_lt {p q : Nat → Bool} : ∀ {n j : Nat}, (∀ i, i < n → q i = true → p i = true) → j < n → p j = true → q j = false → cnt q n < cnt p n
  | 0, j, _, h, _, _ => by omega
  | n + 1, j, h, hj, h1, h2 => by
    unfold cnt
    have hle : ∀ m, m ≤ n → cnt q m ≤ cnt p m := by
      intro m
      induction m with
      | zero => intro _; exact Nat.le_refl _
      | succ m ih =>
        intro hm
        have i1 := ih (by omega)
        unfold cnt
        cases hq : q m with
        | false => simp only [cond_false]; omega
        | true => rw [h m (by omega) hq]; simp only [cond_true]; omega
    rcases Nat.eq_or_lt_of_le (Nat.le_of_lt_succ hj) with z | z
    · rw [← z, h1, h2]
      have := hle j (by omega)
      simp only [cond_true, cond_false]
      omega
    · have i1 := cnt_lt (n := n) (fun i hi => h i (by omega)) z h1 h2
      cases hq : q n with
      | false => simp only [cond_false]; omega
      | true => rw [h n (by omega) hq]; simp only [cond_true]; omega
theorem cnt_pos {p : Nat → Bool} : ∀ {n j : Nat}, j < n → p j = true → 0 < cnt p n
  | 0, j, h, _ => by omega
  | n + 1, j, h, h1 => by
    unfold cnt
    rcases Nat.eq_or_lt_of_le (Nat.le_of_lt_succ h) with z | z
    · rw [← z, h1]; simp only [cond_true]; omega
    · have := cnt_pos z h1; omega
end

/-! ===== loops whose turns cost more or less, by cost ===== -/
noncomputable section
theorem lp_up2 {G : Nat → Nat → Option dRes} {c n : Nat} {r : Option dRes} (h : ∀ k, k < n → ∃ c', c' ≤ c ∧ ∀ t, G (t + c') k = G t (k + 1)) (he : ∀ t, G (t + c) n = r) (t : Nat) (ht : c * (n + 1) ≤ t) : G t 0 = r := by
  refine lp_up1 (c := c) (fun t k hk => ?_) he t ht
  obtain ⟨c', h1, h2⟩ := h k hk
  refine ⟨t + (c - c'), by omega, ?_⟩
  rw [← h2]
  congr 1
  omega
theorem lp_find2 {G : Nat → Nat → Option dRes} {c n : Nat} {p : Nat → Bool} {r : Nat → Option dRes} {r0 : Option dRes} (hs : ∀ k, k < n → p k = false → ∃ c', c' ≤ c ∧ ∀ t, G (t + c') k = G t (k + 1)) (hf : ∀ t k, k < n → p k = true → G (t + c) k = r k) (he : ∀ t, G (t + c) n = r0) (t : Nat) (ht : c * (n + 1) ≤ t) : G t 0 = (match fnd n p with | some j => r j | none => r0) := by
  refine lp_find1 (c := c) (fun t k hk hp => ?_) hf he t ht
  obtain ⟨c', h1, h2⟩ := hs k hk hp
  refine ⟨t + (c - c'), by omega, ?_⟩
  rw [← h2]
  congr 1
  omega
theorem eol_n {s : sV} {k : Nat} (h : bx s k 5 = nM1) : eolF k s = s := by
  unfold eolF
  rw [decide_eq_true h]
  rfl
theorem eol_n2 {s : sV} {k : Nat} (h : s 0 - bx s k 6 < Int32.ofNat 2) : eolF k s = s := by
  unfold eolF
  rw [decide_eq_true h, Bool.not_true, Bool.and_false]
  rfl
theorem eol_y {s : sV} {k : Nat} (h5 : ¬ bx s k 5 = nM1) (h : ¬ s 0 - bx s k 6 < Int32.ofNat 2) : eolF k s = lay s k 5 nM1 := by
  unfold eolF
  rw [decide_eq_false h, decide_eq_false h5]
  rfl
end

/-! ===== a new box: what the pure function keeps ===== -/
noncomputable section
theorem zer_bx {s : sV} {k : Nat} : ∀ {n : Nat}, n ≤ 12 → ∀ k' f, f < 12 → bx (upF (fun f s => lay s k f (Int32.ofNat 0)) n s) k' f = if k' = k ∧ f < n then Int32.ofNat 0 else bx s k' f
  | 0, _, k', f, _ => by rw [if_neg (by omega)]; rfl
  | n + 1, h, k', f, hf => by
    have ih := @zer_bx s k n (by omega)
    rw [upF_s, bx_lay (by omega) hf, ih k' f hf]
    by_cases h1 : k' = k ∧ f = n
    · rw [if_pos h1, if_pos (by omega)]
    · rw [if_neg h1]
      by_cases h2 : k' = k ∧ f < n
      · rw [if_pos h2, if_pos (by omega)]
      · rw [if_neg h2, if_neg (by omega)]
theorem zer_lo {s : sV} {k j : Nat} (hj : j < 27) : ∀ {n : Nat}, upF (fun f s => lay s k f (Int32.ofNat 0)) n s j = s j
  | 0 => rfl
  | n + 1 => by rw [upF_s, lay_lo hj, zer_lo hj]
theorem new_lo {s : sV} {c y q : Int32} {j : Nat} (hj : j < 27) (h1 : j ≠ 1) : newS s c y q j = s j := by
  unfold newS
  rw [wr_n h1, lay_lo hj, lay_lo hj, lay_lo hj, lay_lo hj, zer_lo hj]
theorem new_1 {s : sV} {c y q : Int32} : newS s c y q 1 = Int32.ofNat (nbS s + 1) := wr_s _ _ _
theorem new_bx {s : sV} {c y q : Int32} {k f : Nat} (hf : f < 12) : bx (newS s c y q) k f = if k = nbS s then (if f = 5 then nM1 else if f = 4 then q else if f = 1 then y else if f = 0 then c else Int32.ofNat 0) else bx s k f := by
  unfold newS
  rw [bx_wr (by omega), bx_lay (by omega) hf, bx_lay (by omega) hf, bx_lay (by omega) hf, bx_lay (by omega) hf, zer_bx (Nat.le_refl _) _ _ hf]
  by_cases h : k = nbS s
  · simp [h, hf]
  · simp [h]
theorem WS_new {Y c y q : Nat} {h s : sV} (W : WS Y h s) (hn : nbS s < 24) (hc : c < nN (h 2)) (hc8 : c < 8) (hy : 1800 ≤ y) (hy2 : y ≤ nN (s 0)) (hY : Y ≤ 1000000) (hq : q < mkN h) (hq2 : q ≤ 47) : WS Y h (newS s (Int32.ofNat c) (Int32.ofNat y) (Int32.ofNat q)) := by
  obtain ⟨a1, a2, a3, a4, a5, a6⟩ := W
  have hl : nlS s ≤ 24 := a2.2.2
  have h0 := a3.2.2
  have e1 : nbS (newS s (Int32.ofNat c) (Int32.ofNat y) (Int32.ofNat q)) = nbS s + 1 := by
    show nN (newS s _ _ _ 1) = _
    rw [new_1, nN_o (by omega)]
  have e2 : nlS (newS s (Int32.ofNat c) (Int32.ofNat y) (Int32.ofNat q)) = nlS s := by
    show nN (newS s _ _ _ 2) = nN (s 2)
    rw [new_lo (by omega) (by omega)]
  have eo : ∀ k f, k ≠ nbS s → f < 12 → bx (newS s (Int32.ofNat c) (Int32.ofNat y) (Int32.ofNat q)) k f = bx s k f := fun k f hk hf => by rw [new_bx hf, if_neg hk]
  refine ⟨by rw [new_1]; exact okI_of (by omega) (by omega) (by omega), by rw [new_lo (by omega) (by omega)]; exact a2, by rw [new_lo (by omega) (by omega)]; exact a3, fun k hk => ?_, fun i hi => ?_, fun i j hij hj => ?_⟩
  · rw [e1] at hk
    by_cases z : k = nbS s
    · subst z
      have en : ∀ f, f < 12 → bx (newS s (Int32.ofNat c) (Int32.ofNat y) (Int32.ofNat q)) (nbS s) f = (if f = 5 then nM1 else if f = 4 then Int32.ofNat q else if f = 1 then Int32.ofNat y else if f = 0 then Int32.ofNat c else Int32.ofNat 0) := fun f hf => by rw [new_bx hf, if_pos rfl]
      unfold WB clN
      rw [en 0 (by omega), en 1 (by omega), en 2 (by omega), en 4 (by omega), en 5 (by omega), en 7 (by omega), en 8 (by omega), new_lo (by omega) (by omega)]
      simp only [Nat.reduceEqDiff, if_true, if_false, eq_self]
      rw [nN_o (by omega)]
      refine ⟨okI_of (by omega) (by omega) (by omega), by omega, okI_of (by omega) (by omega) (by omega), Or.inl trivial, Or.inr ⟨okI_of (by omega) (by omega) (by omega), by rw [nN_o (by omega)]; exact hq, trivial⟩, Or.inl trivial, okI_of (by omega) (by omega) (by omega), fun i hi => ?_⟩
      rw [nN_o (by omega)] at hi
      omega
    · exact WB_same (a4 k (by omega)) (new_lo (by omega) (by omega)) (fun f hf _ _ => eo k f z hf)
  · rw [e2] at hi
    obtain ⟨b1, b2, b3⟩ := a5 i hi
    rw [new_lo (by omega) (by omega), e1, new_lo (by omega) (by omega), due_congr (eo _ 0 (by omega) (by omega)) (eo _ 1 (by omega) (by omega)) (eo _ 2 (by omega) (by omega))]
    exact ⟨b1, by omega, b3⟩
  · rw [e2] at hj
    rw [new_lo (by omega) (by omega), new_lo (by omega) (by omega)]
    exact a6 i j hij hj
end

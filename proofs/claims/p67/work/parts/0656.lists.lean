/-! ===== lists: the reference's choice, one after another ===== -/
noncomputable section
def canB (s h : sV) (k : Nat) : Bool := mayB s h k && !isLB s (Int32.ofNat k)
def muS (s h : sV) : Nat := cnt (canB s h) (nbS s)
theorem ftl_none {s h : sV} : ∀ {n : Nat}, ftlK s h n = none ↔ ∀ k, k < n → canB s h k = false
  | 0 => ⟨fun _ k hk => by omega, fun _ => rfl⟩
  | n + 1 => by
    have ih := @ftl_none s h n
    show (bif canB s h n then (match ftlK s h n with | none => some n | some j => if dueS s h n < dueS s h j then some n else some j) else ftlK s h n) = none ↔ _
    constructor
    · intro q k hk
      cases hc : canB s h n with
      | false =>
        rw [hc] at q
        simp only [cond_false] at q
        rcases Nat.eq_or_lt_of_le (Nat.le_of_lt_succ hk) with z | z
        · rw [z]; exact hc
        · exact ih.mp q k z
      | true =>
        rw [hc] at q
        simp only [cond_true] at q
        cases hf : ftlK s h n with
        | none => rw [hf] at q; cases q
        | some j =>
          rw [hf] at q
          simp only at q
          split at q <;> cases q
    · intro q
      rw [q n (by omega)]
      simp only [cond_false]
      exact ih.mpr (fun k hk => q k (by omega))
theorem ftl_some {s h : sV} : ∀ {n j : Nat}, ftlK s h n = some j → j < n ∧ canB s h j = true ∧ (∀ i, i < n → canB s h i = true → dueS s h j ≤ dueS s h i) ∧ ∀ i, i < j → canB s h i = true → dueS s h j < dueS s h i
  | 0, j, q => by cases q
  | n + 1, j, q => by
    have ih := fun i => @ftl_some s h n i
    have hd : ftlK s h (n + 1) = (bif canB s h n then (match ftlK s h n with | none => some n | some j => if dueS s h n < dueS s h j then some n else some j) else ftlK s h n) := rfl
    rw [hd] at q
    cases hc : canB s h n with
    | false =>
      rw [hc] at q
      simp only [cond_false] at q
      obtain ⟨h1, h2, h3, h4⟩ := ih _ q
      refine ⟨by omega, h2, fun i hi hci => ?_, h4⟩
      rcases Nat.eq_or_lt_of_le (Nat.le_of_lt_succ hi) with z | z
      · rw [z, hc] at hci; cases hci
      · exact h3 i z hci
    | true =>
      rw [hc] at q
      simp only [cond_true] at q
      cases hf : ftlK s h n with
      | none =>
        rw [hf] at q
        simp only [Option.some.injEq] at q
        subst q
        have hn := ftl_none.mp hf
        refine ⟨by omega, hc, fun i hi hci => ?_, fun i hi hci => ?_⟩
        · rcases Nat.eq_or_lt_of_le (Nat.le_of_lt_succ hi) with z | z
          · rw [z]; exact Int32.le_refl _
          · rw [hn i z] at hci; cases hci
        · rw [hn i hi] at hci; cases hci
      | some b =>
        rw [hf] at q
        obtain ⟨h1, h2, h3, h4⟩ := ih _ hf
        simp only at q
        by_cases hlt : dueS s h n < dueS s h b
        · rw [if_pos hlt, Option.some.injEq] at q
          subst q
          refine ⟨by omega, hc, fun i hi hci => ?_, fun i hi hci => ?_⟩
          · rcases Nat.eq_or_lt_of_le (Nat.le_of_lt_succ hi) with z | z
            · rw [z]; exact Int32.le_refl _
            · have := h3 i z hci
              rw [Int32.lt_iff_toInt_lt] at hlt
              rw [Int32.le_iff_toInt_le] at this ⊢
              omega
          · have := h3 i hi hci
            rw [Int32.lt_iff_toInt_lt] at hlt ⊢
            rw [Int32.le_iff_toInt_le] at this
            omega
        · rw [if_neg hlt, Option.some.injEq] at q
          subst q
          refine ⟨by omega, h2, fun i hi hci => ?_, h4⟩
          rcases Nat.eq_or_lt_of_le (Nat.le_of_lt_succ hi) with z | z
          · rw [z]; exact Int32.not_lt.mp hlt
          · exact h3 i z hci
theorem may_due {s h : sV} {k : Nat} (hm : mayB s h k = true) : dueS s h k ≤ s 0 := by
  unfold mayB at hm
  have e : ∀ i j : Nat, i < 10 → j < 10 → i ≠ j → Int32.ofNat i ≠ Int32.ofNat j := fun i j hi hj hij q => by
    rw [nEq (by omega) (by omega)] at q
    exact hij q
  have h0 : hinS s h k = Int32.ofNat 0 ∨ hinS s h k = Int32.ofNat 5 := by simpa using hm
  unfold hinS at h0
  by_cases c1 : gonB s k = true
  · rw [if_pos c1] at h0
    rcases h0 with z | z
    · exact absurd z (e 1 0 (by omega) (by omega) (by omega))
    · exact absurd z (e 1 5 (by omega) (by omega) (by omega))
  · rw [if_neg c1] at h0
    by_cases c2 : forB s h k = true
    · rw [if_pos c2] at h0
      rcases h0 with z | z
      · exact absurd z (e 2 0 (by omega) (by omega) (by omega))
      · exact absurd z (e 2 5 (by omega) (by omega) (by omega))
    · rw [if_neg c2] at h0
      by_cases c3 : s 0 < dueS s h k
      · rw [if_pos c3] at h0
        rcases h0 with z | z
        · exact absurd z (e 3 0 (by omega) (by omega) (by omega))
        · exact absurd z (e 3 5 (by omega) (by omega) (by omega))
      · exact Int32.not_lt.mp c3
theorem add_0 {s : sV} {k : Nat} : addL s k 0 = s 0 := by
  unfold addL
  rw [wr_n (by omega), wr_n (by omega)]
theorem add_1 {s : sV} {k : Nat} : addL s k 1 = s 1 := by
  unfold addL
  rw [wr_n (by omega), wr_n (by omega)]
theorem add_2 {s : sV} {k : Nat} : addL s k 2 = Int32.ofNat (nlS s + 1) := wr_s _ _ _
theorem add_o {s : sV} {k j : Nat} (h1 : j ≠ 2) (h2 : j ≠ 3 + nlS s) : addL s k j = s j := by
  unfold addL
  rw [wr_n h1, wr_n h2]
theorem add_l {s : sV} {k : Nat} : addL s k (3 + nlS s) = Int32.ofNat k := by
  unfold addL
  rw [wr_n (by omega), wr_s]
theorem add_b {s : sV} {k j f : Nat} (hl : nlS s < 24) : bx (addL s k) j f = bx s j f := add_o (by omega) (by omega)
theorem hin_congr {s s' h : sV} {k : Nat} (h0 : s' 0 = s 0) (hb : ∀ f, f < 12 → bx s' k f = bx s k f) : hinS s' h k = hinS s h k := by
  unfold hinS gonB forB dueS selB clN
  rw [h0, hb 0 (by omega), hb 1 (by omega), hb 2 (by omega), hb 3 (by omega), hb 5 (by omega), hb 7 (by omega)]
theorem may_congr {s s' h : sV} {k : Nat} (h0 : s' 0 = s 0) (hb : ∀ f, f < 12 → bx s' k f = bx s k f) : mayB s' h k = mayB s h k := by
  unfold mayB
  rw [hin_congr h0 hb]
theorem add_may {s h : sV} {k j : Nat} (hl : nlS s < 24) : mayB (addL s k) h j = mayB s h j := may_congr add_0 (fun _ _ => add_b hl)
theorem add_nl {s : sV} {k : Nat} (hl : nlS s < 24) : nlS (addL s k) = nlS s + 1 := by
  unfold nlS at hl ⊢
  rw [add_2, nN_o (by unfold nlS; omega)]
  rfl
theorem add_is {s : sV} {k : Nat} {x : Int32} (hl : nlS s < 24) : isLB (addL s k) x = (isLB s x || decide (Int32.ofNat k = x)) := by
  cases h : isLB (addL s k) x with
  | true =>
    obtain ⟨i, h1, h2⟩ := anyB_iff.mp h
    rw [add_nl hl] at h1
    have h2 := of_decide_eq_true h2
    rcases Nat.eq_or_lt_of_le (Nat.le_of_lt_succ h1) with z | z
    · rw [z, add_l] at h2
      rw [h2, decide_eq_true rfl, Bool.or_true]
    · rw [add_o (by omega) (by omega)] at h2
      have : isLB s x = true := anyB_iff.mpr ⟨i, z, by rw [h2]; exact decide_eq_true rfl⟩
      rw [this, Bool.true_or]
  | false =>
    have h1 := anyB_no.mp h
    rw [add_nl hl] at h1
    have e1 : isLB s x = false := anyB_no.mpr (fun i hi => by
      have := h1 i (by omega)
      rw [add_o (by omega) (by omega)] at this
      exact this)
    have e2 := h1 (nlS s) (by omega)
    rw [add_l] at e2
    rw [e1, e2]
    rfl
theorem mu_add {s h : sV} {k : Nat} (hl : nlS s < 24) (hk : k < nbS s) (hc : canB s h k = true) : muS (addL s k) h < muS s h := by
  unfold muS
  have e : nbS (addL s k) = nbS s := by unfold nbS; rw [add_1]
  rw [e]
  refine cnt_lt (fun i hi q => ?_) hk hc ?_
  · unfold canB at q ⊢
    rw [add_may hl, add_is hl] at q
    cases h1 : mayB s h i <;> cases h2 : isLB s (Int32.ofNat i) <;> rw [h1, h2] at q <;> simp at q ⊢
  · unfold canB
    rw [add_may hl, add_is hl]
    simp
theorem WS_add {Y : Nat} {h s : sV} {k : Nat} (W : WS Y h s) (hl : nlS s < 24) (hk : k < nbS s) (hc : canB s h k = true) : WS Y h (addL s k) := by
  obtain ⟨a1, a2, a3, a4, a5, a6⟩ := W
  have hn : nbS s ≤ 24 := a1.2.2
  have e1 : nbS (addL s k) = nbS s := by unfold nbS; rw [add_1]
  have hd : ∀ j, dueS (addL s k) h j = dueS s h j := fun j => due_congr (add_b hl) (add_b hl) (add_b hl)
  obtain ⟨c1, c2⟩ : mayB s h k = true ∧ isLB s (Int32.ofNat k) = false := by
    unfold canB at hc
    simpa using hc
  refine ⟨by rw [add_1]; exact a1, by rw [add_2]; exact okI_of (by omega) (by omega) (by omega), by rw [add_0]; exact a3, fun j hj => ?_, fun i hi => ?_, fun i j hij hj => ?_⟩
  · rw [e1] at hj
    exact WB_same (a4 j hj) add_0 (fun f _ _ _ => add_b hl)
  · rw [add_nl hl] at hi
    rw [e1, add_0, hd]
    rcases Nat.eq_or_lt_of_le (Nat.le_of_lt_succ hi) with z | z
    · rw [z, add_l, nN_o (by omega)]
      exact ⟨okI_of (by omega) (by omega) (by omega), hk, may_due c1⟩
    · rw [add_o (by omega) (by omega)]
      exact a5 i z
  · rw [add_nl hl] at hj
    rcases Nat.eq_or_lt_of_le (Nat.le_of_lt_succ hj) with z | z
    · rw [z, add_l, add_o (by omega) (by omega)]
      have := anyB_no.mp c2 i (by omega)
      exact of_decide_eq_false this
    · rw [add_o (by omega) (by omega), add_o (by omega) (by omega)]
      exact a6 i j hij z
theorem WS_lisK {Y : Nat} {h : sV} : ∀ {t : Nat} {s : sV}, WS Y h s → nlS s + muS s h ≤ 24 → WS Y h (lisK h t s)
  | 0, s, W, _ => W
  | t + 1, s, W, hm => by
    unfold lisK
    cases hf : ftlK s h (nbS s) with
    | none => exact W
    | some k =>
      obtain ⟨f1, f2, -, -⟩ := ftl_some hf
      have hp : 0 < muS s h := cnt_pos f1 f2
      have hl : nlS s < 24 := by omega
      have := mu_add hl f1 f2
      exact WS_lisK (WS_add W hl f1 f2) (by rw [add_nl hl]; omega)
theorem WS_nl0 {Y : Nat} {h s : sV} (W : WS Y h s) : WS Y h (wr s 2 (Int32.ofNat 0)) := by
  obtain ⟨a1, a2, a3, a4, a5, a6⟩ := W
  have e1 : nbS (wr s 2 (Int32.ofNat 0)) = nbS s := by unfold nbS; rw [wr_n (by omega)]
  have e2 : nlS (wr s 2 (Int32.ofNat 0)) = 0 := by unfold nlS; rw [wr_s]; rfl
  refine ⟨by rw [wr_n (by omega)]; exact a1, by rw [wr_s]; exact okI_of (by omega) (by omega) (by omega), by rw [wr_n (by omega)]; exact a3, fun j hj => ?_, fun i hi => ?_, fun i j hij hj => ?_⟩
  · rw [e1] at hj
    exact WB_same (a4 j hj) (wr_n (by omega)) (fun f _ _ _ => bx_wr (by omega))
  · rw [e2] at hi; omega
  · rw [e2] at hj; omega
theorem mu_nl0 {Y : Nat} {h s : sV} (W : WS Y h s) : nlS (wr s 2 (Int32.ofNat 0)) + muS (wr s 2 (Int32.ofNat 0)) h ≤ 24 := by
  have e1 : nbS (wr s 2 (Int32.ofNat 0)) = nbS s := by unfold nbS; rw [wr_n (by omega)]
  have e2 : nlS (wr s 2 (Int32.ofNat 0)) = 0 := by unfold nlS; rw [wr_s]; rfl
  have h1 := cnt_le (canB (wr s 2 (Int32.ofNat 0)) h) (nbS (wr s 2 (Int32.ofNat 0)))
  have h2 : nbS s ≤ 24 := W.1.2.2
  unfold muS
  omega
theorem WS_lists {Y : Nat} {h s : sV} (W : WS Y h s) : WS Y h (listsS s h) := WS_lisK (WS_nl0 W) (mu_nl0 W)
theorem end_lo {s : sV} {k j : Nat} (hj : j < 27) : endS s k j = s j := by
  unfold endS
  rw [lay_lo hj, lay_lo hj, lay_lo hj, lay_lo hj]
theorem end_bx {s : sV} {k k' f : Nat} (hf : f < 12) : bx (endS s k) k' f = if k' = k ∧ f = 8 then Int32.ofNat 0 else if k' = k ∧ f = 3 then Int32.ofNat 0 else if k' = k ∧ f = 4 then nM1 else if k' = k ∧ f = 7 then Int32.ofNat 1 else bx s k' f := by
  unfold endS
  rw [bx_lay (by omega) hf, bx_lay (by omega) hf, bx_lay (by omega) hf, bx_lay (by omega) hf]
theorem end_n {s : sV} {k k' f : Nat} (hf : f < 12) (h : k' ≠ k ∨ (f ≠ 8 ∧ f ≠ 3 ∧ f ≠ 4 ∧ f ≠ 7)) : bx (endS s k) k' f = bx s k' f := by
  rw [end_bx hf, if_neg (by omega), if_neg (by omega), if_neg (by omega), if_neg (by omega)]
theorem WS_end {Y : Nat} {h s : sV} {k : Nat} (W : WS Y h s) : WS Y h (endS s k) := by
  refine WS_box (k := k) W (fun j hj => end_lo hj) (fun k' f h1 h2 => end_n h2 (Or.inl h1)) (end_n (by omega) (by omega)) (end_n (by omega) (by omega)) (end_n (by omega) (by omega)) (fun hk => ?_)
  have w := W.2.2.2.1 k hk
  obtain ⟨a0, a1, a2, a3, a4, a5, a6, a7⟩ := w
  have e8 : bx (endS s k) k 8 = Int32.ofNat 0 := by rw [end_bx (by omega), if_pos ⟨rfl, rfl⟩]
  refine WB_of (W.2.2.2.1 k hk) (end_lo (by omega)) (end_n (by omega) (by omega)) (end_n (by omega) (by omega)) (end_n (by omega) (by omega)) (Or.inl ⟨?_, ?_⟩) ?_ ?_ ?_
  · rw [end_bx (by omega), if_neg (by omega), if_neg (by omega), if_pos ⟨rfl, rfl⟩]
  · rw [end_bx (by omega), if_neg (by omega), if_neg (by omega), if_neg (by omega), if_pos ⟨rfl, rfl⟩]
  · rw [end_n (by omega) (by omega)]; exact a5
  · rw [e8]; exact okI_of (by omega) (by omega) (by omega)
  · rw [e8]
    intro i hi
    rw [nN_o (by omega)] at hi
    omega
theorem WS_apr {Y : Nat} {h s : sV} (W : WS Y h s) : ∀ k, k ≤ nlS s → WS Y h (upF (aprF h) k (0, s)).2 ∧ (∀ j, j < 27 → (upF (aprF h) k (0, s)).2 j = s j) ∧ (upF (aprF h) k (0, s)).1 ≤ k := by
  intro k
  induction k with
  | zero => intro _; exact ⟨W, fun _ _ => rfl, Nat.le_refl _⟩
  | succ k ih =>
    intro hk
    obtain ⟨i1, i2, i3⟩ := ih (by omega)
    rw [upF_s]
    unfold aprF at i1 i2 i3 ⊢
    split
    · exact ⟨WS_end i1, fun j hj => (end_lo hj).trans (i2 j hj), by show _ + 1 ≤ _; omega⟩
    · exact ⟨i1, i2, by omega⟩
theorem WS_aprS {Y : Nat} {h s : sV} (W : WS Y h s) : WS Y h (aprS s h) := WS_nl0 (WS_apr W (nlS s) (Nat.le_refl _)).1
theorem WS_clr {Y : Nat} {h s : sV} (hY : Y ≤ 1000000) (W : WS Y h s) : WS (Y + 1) h (clrS s h) := WS_aprS (WS_lists (WS_pas hY W))
end

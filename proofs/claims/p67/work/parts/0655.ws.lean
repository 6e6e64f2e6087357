/-! ===== what the pure functions keep ===== -/
noncomputable section
theorem okI.lt {lo hi : Nat} {x : Int32} (h : okI lo hi x) : nN x ≤ hi := h.2.2
theorem okI.eq {lo hi : Nat} {x : Int32} (h : okI lo hi x) : x = Int32.ofNat (nN x) := h.1
theorem nN_lt31 (x : Int32) : nN x < 2147483648 := by
  have := Int32.toInt_lt x
  unfold nN
  omega
theorem anyB_iff {n : Nat} {p : Nat → Bool} : anyB n p = true ↔ ∃ i, i < n ∧ p i = true := by
  unfold anyB
  constructor
  · intro h
    cases e : fnd n p with
    | none => rw [e] at h; cases h
    | some j => obtain ⟨a, b, _⟩ := fnd_some e; exact ⟨j, a, b⟩
  · intro ⟨i, h1, h2⟩
    cases e : fnd n p with
    | none => rw [fnd_none e i h1] at h2; cases h2
    | some j => rfl
theorem anyB_no {n : Nat} {p : Nat → Bool} : anyB n p = false ↔ ∀ i, i < n → p i = false := by
  unfold anyB
  constructor
  · intro h
    cases e : fnd n p with
    | none => exact fnd_none e
    | some j => rw [e] at h; cases h
  · intro h
    rw [fnd_isNone h]
    rfl
theorem anyB_congr {n : Nat} {p q : Nat → Bool} (h : ∀ i, i < n → p i = q i) : anyB n p = anyB n q := by
  unfold anyB
  rw [fnd_congr h]
theorem fI_congr {n : Nat} {p q : Nat → Bool} (h : ∀ i, i < n → p i = q i) : fI n p = fI n q := by
  unfold fI
  rw [fnd_congr h]
theorem WB_of {h s s' : sV} {k : Nat} (W : WB h s k) (h0 : s' 0 = s 0) (e0 : bx s' k 0 = bx s k 0) (e1 : bx s' k 1 = bx s k 1) (e2 : bx s' k 2 = bx s k 2)
    (m4 : bx s' k 4 = nM1 ∧ bx s' k 7 = Int32.ofNat 1 ∨ okI 0 47 (bx s' k 4) ∧ nN (bx s' k 4) < mkN h ∧ bx s' k 7 = Int32.ofNat 0) (b5 : bx s' k 5 = nM1 ∨ okI 0 5 (bx s' k 5) ∧ nN (bx s' k 5) < nN (h 3)) (w8 : okI 0 3 (bx s' k 8))
    (q9 : ∀ i, i < nN (bx s' k 8) → okI 0 5 (bx s' k (9 + i)) ∧ nN (bx s' k (9 + i)) < nN (h 3)) : WB h s' k := by
  obtain ⟨a0, a1, a2, a3, -, -, -, -⟩ := W
  unfold clN at a1 a3
  unfold WB clN
  rw [h0, e0, e1, e2]
  exact ⟨a0, a1, a2, a3, m4, b5, w8, q9⟩
theorem WB_same {h s s' : sV} {k : Nat} (W : WB h s k) (h0 : s' 0 = s 0) (hb : ∀ f, f < 12 → f ≠ 3 → f ≠ 6 → bx s' k f = bx s k f) : WB h s' k := by
  obtain ⟨a0, a1, a2, a3, a4, a5, a6, a7⟩ := W
  refine WB_of ⟨a0, a1, a2, a3, a4, a5, a6, a7⟩ h0 (hb 0 (by omega) (by omega) (by omega)) (hb 1 (by omega) (by omega) (by omega)) (hb 2 (by omega) (by omega) (by omega)) ?_ ?_ ?_ ?_
  · rw [hb 4 (by omega) (by omega) (by omega), hb 7 (by omega) (by omega) (by omega)]; exact a4
  · rw [hb 5 (by omega) (by omega) (by omega)]; exact a5
  · rw [hb 8 (by omega) (by omega) (by omega)]; exact a6
  · rw [hb 8 (by omega) (by omega) (by omega)]
    intro i hi
    have h3 := a6.2.2
    rw [hb (9 + i) (by omega) (by omega) (by omega)]
    exact a7 i hi
theorem due_congr {h s s' : sV} {k : Nat} (e0 : bx s' k 0 = bx s k 0) (e1 : bx s' k 1 = bx s k 1) (e2 : bx s' k 2 = bx s k 2) : dueS s' h k = dueS s h k := by
  unfold dueS clN
  rw [e0, e1, e2]
theorem WS_box {Y : Nat} {h s s' : sV} {k : Nat} (W : WS Y h s) (lo : ∀ j, j < 27 → s' j = s j) (oth : ∀ k' f, k' ≠ k → f < 12 → bx s' k' f = bx s k' f) (e0 : bx s' k 0 = bx s k 0) (e1 : bx s' k 1 = bx s k 1) (e2 : bx s' k 2 = bx s k 2) (hB : k < nbS s → WB h s' k) : WS Y h s' := by
  obtain ⟨a1, a2, a3, a4, a5, a6⟩ := W
  have n1 : nbS s' = nbS s := by unfold nbS; rw [lo 1 (by omega)]
  have n2 : nlS s' = nlS s := by unfold nlS; rw [lo 2 (by omega)]
  have hdue : ∀ j, dueS s' h j = dueS s h j := by
    intro j
    by_cases q : j = k
    · subst q; exact due_congr e0 e1 e2
    · exact due_congr (oth _ _ q (by omega)) (oth _ _ q (by omega)) (oth _ _ q (by omega))
  have hl : nlS s ≤ 24 := a2.2.2
  refine ⟨by rw [lo 1 (by omega)]; exact a1, by rw [lo 2 (by omega)]; exact a2, by rw [lo 0 (by omega)]; exact a3, fun j hj => ?_, fun i hi => ?_, fun i j hij hj => ?_⟩
  · rw [n1] at hj
    by_cases q : j = k
    · subst q; exact hB hj
    · exact WB_same (a4 j hj) (lo 0 (by omega)) (fun f hf _ _ => oth j f q hf)
  · rw [n2] at hi
    rw [lo _ (by omega), n1, hdue, lo 0 (by omega)]
    exact a5 i hi
  · rw [n2] at hj
    rw [lo _ (by omega), lo _ (by omega)]
    exact a6 i j hij hj
theorem lay_oth {s : sV} {k f : Nat} {x : Int32} (hf : f < 12) : ∀ k' f', k' ≠ k → f' < 12 → bx (lay s k f x) k' f' = bx s k' f' := fun k' f' h1 h2 => by rw [bx_lay hf h2, if_neg (fun q => h1 q.1)]
theorem lay_n {s : sV} {k k' f f' : Nat} {x : Int32} (h1 : f < 12) (h2 : f' < 12) (h3 : f' ≠ f) : bx (lay s k f x) k' f' = bx s k' f' := by rw [bx_lay h1 h2, if_neg (fun q => h3 q.2)]
theorem lay_s {s : sV} {k f : Nat} {x : Int32} (h1 : f < 12) : bx (lay s k f x) k f = x := by rw [bx_lay h1 h1, if_pos ⟨rfl, rfl⟩]
theorem WS_5 {Y : Nat} {h s : sV} {k : Nat} {x : Int32} (W : WS Y h s) (hx : x = nM1 ∨ okI 0 5 x ∧ nN x < nN (h 3)) : WS Y h (lay s k 5 x) := by
  refine WS_box (k := k) W (fun j hj => lay_lo hj) (lay_oth (by omega)) (lay_n (by omega) (by omega) (by omega)) (lay_n (by omega) (by omega) (by omega)) (lay_n (by omega) (by omega) (by omega)) (fun hk => ?_)
  have w := W.2.2.2.1 k hk
  obtain ⟨a0, a1, a2, a3, a4, a5, a6, a7⟩ := w
  have h3 := a6.2.2
  refine WB_of (W.2.2.2.1 k hk) (lay_lo (by omega)) (lay_n (by omega) (by omega) (by omega)) (lay_n (by omega) (by omega) (by omega)) (lay_n (by omega) (by omega) (by omega)) ?_ ?_ ?_ ?_
  · rw [lay_n (by omega) (by omega) (by omega), lay_n (by omega) (by omega) (by omega)]; exact a4
  · rw [lay_s (by omega)]; exact hx
  · rw [lay_n (by omega) (by omega) (by omega)]; exact a6
  · rw [lay_n (by omega) (by omega) (by omega)]
    intro i hi
    rw [lay_n (by omega) (by omega) (by omega)]
    exact a7 i hi
theorem WS_36 {Y : Nat} {h s : sV} {k f : Nat} {x : Int32} (W : WS Y h s) (hf : f = 3 ∨ f = 6) : WS Y h (lay s k f x) := by
  refine WS_box (k := k) W (fun j hj => lay_lo hj) (lay_oth (by omega)) (lay_n (by omega) (by omega) (by omega)) (lay_n (by omega) (by omega) (by omega)) (lay_n (by omega) (by omega) (by omega)) (fun hk => ?_)
  exact WB_same (W.2.2.2.1 k hk) (lay_lo (by omega)) (fun f' h1 h2 h3 => lay_n (by omega) (by omega) (by omega))
theorem shf_bx {s : sV} {k p : Nat} : ∀ {i : Nat}, p + i ≤ 2 → ∀ k' f, f < 12 → bx (upF (shfF k p) i s) k' f = if k' = k ∧ 9 + p ≤ f ∧ f < 9 + p + i then bx s k (f + 1) else bx s k' f
  | 0, _, k', f, _ => by rw [if_neg (by omega)]; rfl
  | i + 1, h, k', f, hf => by
    have ih := @shf_bx s k p i (by omega)
    show bx (lay (upF (shfF k p) i s) k (9 + (p + i)) (bx (upF (shfF k p) i s) k (9 + (p + i) + 1))) k' f = _
    rw [bx_lay (by omega) hf]
    by_cases h1 : k' = k ∧ f = 9 + (p + i)
    · rw [if_pos h1, ih _ _ (by omega), if_neg (by omega), if_pos (by omega), h1.2]
    · rw [if_neg h1, ih _ _ hf]
      by_cases h2 : k' = k ∧ 9 + p ≤ f ∧ f < 9 + p + i
      · rw [if_pos h2, if_pos (by omega)]
      · rw [if_neg h2, if_neg (by omega)]
theorem shf_lo {s : sV} {k p j : Nat} (hj : j < 27) : ∀ {i : Nat}, upF (shfF k p) i s j = s j
  | 0 => rfl
  | i + 1 => by
    show lay _ _ _ _ j = _
    rw [lay_lo hj, shf_lo hj]
theorem lv_oth {s : sV} {k p k' f : Nat} (hw : nN (bx s k 8) ≤ 3) (hp : p < nN (bx s k 8)) (hf : f < 12) (h : k' ≠ k ∨ f < 8) : bx (lvS s k p) k' f = bx s k' f := by
  unfold lvS
  rw [shf_bx (by omega) _ _ hf, if_neg (by omega), bx_lay (by omega) hf, if_neg (by omega)]
theorem lv_8 {s : sV} {k p : Nat} (hw : nN (bx s k 8) ≤ 3) (hp : p < nN (bx s k 8)) : bx (lvS s k p) k 8 = Int32.ofNat (nN (bx s k 8) - 1) := by
  unfold lvS
  rw [shf_bx (by omega) _ _ (by omega), if_neg (by omega), lay_s (by omega)]
theorem lv_9 {s : sV} {k p i : Nat} (hw : nN (bx s k 8) ≤ 3) (hp : p < nN (bx s k 8)) (hi : i < nN (bx s k 8) - 1) : bx (lvS s k p) k (9 + i) = if i < p then bx s k (9 + i) else bx s k (9 + (i + 1)) := by
  unfold lvS
  rw [shf_bx (by omega) _ _ (by omega)]
  by_cases h : i < p
  · rw [if_neg (by omega), if_pos h, lay_n (by omega) (by omega) (by omega)]
  · rw [if_pos (by omega), if_neg h, lay_n (by omega) (by omega) (by omega)]
    rfl
theorem lv_lo {s : sV} {k p j : Nat} (hj : j < 27) : lvS s k p j = s j := by
  unfold lvS
  rw [shf_lo hj, lay_lo hj]
theorem WS_lv {Y : Nat} {h s : sV} {k p : Nat} (W : WS Y h s) (hk : k < nbS s) (hp : p < nN (bx s k 8)) : WS Y h (lvS s k p) := by
  have w := W.2.2.2.1 k hk
  obtain ⟨a0, a1, a2, a3, a4, a5, a6, a7⟩ := w
  have h3 := a6.2.2
  refine WS_box (k := k) W (fun j hj => lv_lo hj) (fun k' f h1 h2 => lv_oth h3 hp h2 (Or.inl h1)) (lv_oth h3 hp (by omega) (Or.inr (by omega))) (lv_oth h3 hp (by omega) (Or.inr (by omega))) (lv_oth h3 hp (by omega) (Or.inr (by omega))) (fun _ => ?_)
  have e8 := lv_8 h3 hp
  have n8 : nN (bx (lvS s k p) k 8) = nN (bx s k 8) - 1 := by rw [e8, nN_o (by omega)]
  refine WB_of (W.2.2.2.1 k hk) (lv_lo (by omega)) (lv_oth h3 hp (by omega) (Or.inr (by omega))) (lv_oth h3 hp (by omega) (Or.inr (by omega))) (lv_oth h3 hp (by omega) (Or.inr (by omega))) ?_ ?_ ?_ ?_
  · rw [lv_oth h3 hp (by omega) (Or.inr (by omega)), lv_oth h3 hp (by omega) (Or.inr (by omega))]; exact a4
  · rw [lv_oth h3 hp (by omega) (Or.inr (by omega))]; exact a5
  · rw [e8]; exact okI_of (by omega) (by omega) (by omega)
  · intro i hi
    rw [n8] at hi
    rw [lv_9 h3 hp hi]
    split
    · exact a7 i (by omega)
    · exact a7 (i + 1) (by omega)
theorem WS_lnd {Y : Nat} {h s : sV} {k : Nat} {r : Int32} (W : WS Y h s) (hx : okI 0 5 r ∧ nN r < nN (h 3)) : WS Y h (lndS s k r) := WS_36 (WS_5 W (Or.inr hx)) (Or.inr rfl)
theorem WS_srv {Y : Nat} {h s : sV} {k : Nat} (W : WS Y h s) (hk : k < nbS s) : WS Y h (srvS s h k) := by
  unfold srvS
  cases hc : (gonB s k || selB s k || !decide (bx s k 5 = nM1)) with
  | true => exact W
  | false =>
    simp only [cond_false]
    cases hf : fnd (nN (bx s k 8)) (fun i => mayH s h (bx s k (9 + i))) with
    | none => exact W
    | some i =>
      obtain ⟨f1, f2, f3⟩ := fnd_some hf
      obtain ⟨a0, a1, a2, a3, a4, a5, a6, a7⟩ := W.2.2.2.1 k hk
      exact WS_lnd (WS_lv W hk f1) (a7 i f1)
theorem srv_lo {s h : sV} {k j : Nat} (hj : j < 27) : srvS s h k j = s j := by
  unfold srvS
  cases (gonB s k || selB s k || !decide (bx s k 5 = nM1)) with
  | true => rfl
  | false =>
    simp only [cond_false]
    cases fnd (nN (bx s k 8)) (fun i => mayH s h (bx s k (9 + i))) with
    | none => rfl
    | some i =>
      show lndS (lvS s k i) k (bx s k (9 + i)) j = s j
      unfold lndS
      rw [lay_lo hj, lay_lo hj, lv_lo hj]
theorem WS_gbk {Y : Nat} {h s : sV} {k : Nat} (W : WS Y h s) (hk : k < nbS s) : WS Y h (gbkS s h k) := by
  refine WS_srv (WS_5 W (Or.inl rfl)) ?_
  have e : nbS (lay s k 5 nM1) = nbS s := by unfold nbS; rw [lay_lo (by omega)]
  rw [e]
  exact hk
theorem le_succ32 {x : Int32} (h : nN x < 2147483647) (h0 : x = Int32.ofNat (nN x)) {y : Int32} (hy : y ≤ x) : y ≤ x + Int32.ofNat 1 := by
  rw [h0, nAdd]
  rw [h0] at hy
  rw [Int32.le_iff_toInt_le] at hy ⊢
  rw [nToI (by omega)] at hy ⊢
  omega
theorem WS_year {Y : Nat} {h s : sV} (hY : Y ≤ 1000000) (W : WS Y h s) : WS (Y + 1) h (wr s 0 (s 0 + Int32.ofNat 1)) := by
  obtain ⟨a1, a2, a3, a4, a5, a6⟩ := W
  obtain ⟨y, y1, y2, y3, y4⟩ : ∃ n, s 0 = Int32.ofNat n ∧ nN (s 0) = n ∧ 1800 ≤ n ∧ n ≤ Y := ⟨nN (s 0), a3.1, rfl, a3.2.1, a3.2.2⟩
  have e0 : wr s 0 (s 0 + Int32.ofNat 1) 0 = Int32.ofNat (y + 1) := by rw [wr_s, y1, nAdd]
  have eo : ∀ j, j ≠ 0 → wr s 0 (s 0 + Int32.ofNat 1) j = s j := fun j hj => wr_n hj
  have eb : ∀ k f, bx (wr s 0 (s 0 + Int32.ofNat 1)) k f = bx s k f := fun k f => bx_wr (by omega)
  have n1 : nbS (wr s 0 (s 0 + Int32.ofNat 1)) = nbS s := by unfold nbS; rw [eo 1 (by omega)]
  have n2 : nlS (wr s 0 (s 0 + Int32.ofNat 1)) = nlS s := by unfold nlS; rw [eo 2 (by omega)]
  have hd : ∀ k, dueS (wr s 0 (s 0 + Int32.ofNat 1)) h k = dueS s h k := fun k => due_congr (eb k 0) (eb k 1) (eb k 2)
  refine ⟨by rw [eo 1 (by omega)]; exact a1, by rw [eo 2 (by omega)]; exact a2, by rw [e0]; exact okI_of (by omega) (by omega) (by omega), fun k hk => ?_, fun i hi => ?_, fun i j hij hj => ?_⟩
  · rw [n1] at hk
    obtain ⟨b0, b1, b2, b3, b4, b5, b6, b7⟩ := a4 k hk
    unfold clN at b1 b3
    unfold WB clN
    simp only [eb, e0]
    rw [nN_o (by omega)]
    rw [y2] at b2 b3
    refine ⟨b0, b1, ⟨b2.1, b2.2.1, by have := b2.2.2; omega⟩, ?_, b4, b5, b6, b7⟩
    rcases b3 with z | z
    · exact Or.inl z
    · exact Or.inr ⟨z.1, by omega⟩
  · rw [n2] at hi
    obtain ⟨c1, c2, c3⟩ := a5 i hi
    rw [eo _ (by omega), n1, hd, wr_s]
    exact ⟨c1, c2, le_succ32 (by omega) a3.1 c3⟩
  · rw [n2] at hj
    rw [eo _ (by omega), eo _ (by omega)]
    exact a6 i j hij hj
theorem WS_eol {Y : Nat} {h s : sV} {k : Nat} (W : WS Y h s) : WS Y h (eolF k s) := by
  unfold eolF
  cases (!decide (bx s k 5 = nM1) && !decide (s 0 - bx s k 6 < Int32.ofNat 2)) with
  | true => exact WS_5 W (Or.inl rfl)
  | false => exact W
theorem eol_lo {s : sV} {k j : Nat} (hj : j < 27) : eolF k s j = s j := by
  unfold eolF
  cases (!decide (bx s k 5 = nM1) && !decide (s 0 - bx s k 6 < Int32.ofNat 2)) with
  | true => exact lay_lo hj
  | false => rfl
theorem eols_lo {s : sV} {n j : Nat} (hj : j < 27) : upF eolF n s j = s j := by
  induction n with
  | zero => rfl
  | succ n ih => rw [upF_s, eol_lo hj, ih]
theorem srvs_lo {s h : sV} {n j : Nat} (hj : j < 27) : upF (srvF h) n s j = s j := by
  induction n with
  | zero => rfl
  | succ n ih => rw [upF_s]; unfold srvF at ih ⊢; rw [srv_lo hj, ih]
theorem WS_pas {Y : Nat} {h s : sV} (hY : Y ≤ 1000000) (W : WS Y h s) : WS (Y + 1) h (pasS s h) := by
  have e1 : nbS (wr s 0 (s 0 + Int32.ofNat 1)) = nbS s := by unfold nbS; rw [wr_n (by omega)]
  have W2 : ∀ k, k ≤ nbS s → WS (Y + 1) h (upF eolF k (wr s 0 (s 0 + Int32.ofNat 1))) := upF_inv (P := fun t => WS (Y + 1) h t) (WS_year hY W) (fun k t _ ht => WS_eol ht)
  have e2 : nbS (upF eolF (nbS s) (wr s 0 (s 0 + Int32.ofNat 1))) = nbS s := by
    unfold nbS
    rw [eols_lo (by omega), wr_n (by omega)]
  refine (upF_inv (P := fun t => WS (Y + 1) h t ∧ nbS t = nbS s) ⟨W2 _ (Nat.le_refl _), e2⟩ (fun k t hk ht => ⟨WS_srv ht.1 (by rw [ht.2]; exact hk), ?_⟩) (nbS s) (Nat.le_refl _)).1
  rw [← ht.2]
  show nN (srvS t h k 1) = nN (t 1)
  rw [srv_lo (by omega)]
theorem pas_lo {s h : sV} {j : Nat} (h0 : j ≠ 0) (hj : j < 27) : pasS s h j = s j := by
  unfold pasS
  rw [srvs_lo hj, eols_lo hj, wr_n h0]
theorem yrs_lo {s h : sV} {j : Nat} (h0 : j ≠ 0) (hj : j < 27) : ∀ {n : Nat}, yrsS h n s j = s j
  | 0 => rfl
  | n + 1 => by
    show pasS (yrsS h n s) h j = _
    rw [pas_lo h0 hj, yrs_lo h0 hj]
theorem WS_yrs {Y : Nat} {h s : sV} (W : WS Y h s) : ∀ {n : Nat}, Y + n ≤ 1000000 → WS (Y + n) h (yrsS h n s)
  | 0, _ => W
  | n + 1, hY => WS_pas (Y := Y + n) (by omega) (WS_yrs W (by omega))
end

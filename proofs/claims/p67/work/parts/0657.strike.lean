/-! ===== queues that grow, strikes, new boxes: what the pure functions keep ===== -/
noncomputable section
theorem WS_que {Y : Nat} {h s : sV} {k : Nat} {r : Int32} (W : WS Y h s) (hx : okI 0 5 r ∧ nN r < nN (h 3)) (hw : nN (bx s k 8) < 3) : WS Y h (queS s r k) := by
  unfold queS
  refine WS_box (k := k) W (fun j hj => by rw [lay_lo hj, lay_lo hj]) (fun k' f h1 h2 => by rw [lay_oth (by omega) _ _ h1 h2, lay_oth (by omega) _ _ h1 h2]) (by rw [lay_n (by omega) (by omega) (by omega), lay_n (by omega) (by omega) (by omega)]) (by rw [lay_n (by omega) (by omega) (by omega), lay_n (by omega) (by omega) (by omega)]) (by rw [lay_n (by omega) (by omega) (by omega), lay_n (by omega) (by omega) (by omega)]) (fun hk => ?_)
  have w := W.2.2.2.1 k hk
  obtain ⟨a0, a1, a2, a3, a4, a5, a6, a7⟩ := w
  refine WB_of (W.2.2.2.1 k hk) (by rw [lay_lo (by omega), lay_lo (by omega)]) (by rw [lay_n (by omega) (by omega) (by omega), lay_n (by omega) (by omega) (by omega)]) (by rw [lay_n (by omega) (by omega) (by omega), lay_n (by omega) (by omega) (by omega)]) (by rw [lay_n (by omega) (by omega) (by omega), lay_n (by omega) (by omega) (by omega)]) ?_ ?_ ?_ ?_
  · rw [lay_n (by omega) (by omega) (by omega), lay_n (by omega) (by omega) (by omega), lay_n (by omega) (by omega) (by omega), lay_n (by omega) (by omega) (by omega)]; exact a4
  · rw [lay_n (by omega) (by omega) (by omega), lay_n (by omega) (by omega) (by omega)]; exact a5
  · rw [lay_s (by omega)]; exact okI_of (by omega) (by omega) (by omega)
  · rw [lay_s (by omega), nN_o (by omega)]
    intro i hi
    rw [lay_n (by omega) (by omega) (by omega)]
    by_cases q : i = nN (bx s k 8)
    · rw [q, lay_s (by omega)]; exact hx
    · rw [lay_n (by omega) (by omega) (by omega)]; exact a7 i (by omega)
theorem WS_req {Y : Nat} {h s : sV} {k : Nat} {r : Int32} (W : WS Y h s) (hx : okI 0 5 r ∧ nN r < nN (h 3)) (hw : nN (bx s k 8) < 3 ∨ reqB s h r k = true) : WS Y h (reqS s h r k) := by
  unfold reqS
  cases hr : reqB s h r k with
  | true => exact WS_lnd W hx
  | false =>
    rw [hr] at hw
    exact WS_que W hx (by rcases hw with z | z; exact z; cases z)
theorem stk_up {s : sV} {x : Int32} {p n : Nat} (hp : s (3 + p) = x) (hu : ∀ i, i < n → i ≠ p → s (3 + i) ≠ x) : ∀ i, i ≤ n → (upF (stkF x) i (0, s)).1 = (if i ≤ p then i else i - 1) ∧ ∀ j, (upF (stkF x) i (0, s)).2 j = if 3 + p ≤ j ∧ j + 1 < 3 + i then s (j + 1) else s j := by
  intro i
  induction i with
  | zero => intro _; exact ⟨by rw [if_pos (by omega)]; rfl, fun j => by rw [if_neg (by omega)]; rfl⟩
  | succ i ih =>
    intro hi
    obtain ⟨i1, i2⟩ := ih (by omega)
    rw [upF_s]
    have e3 : (upF (stkF x) i (0, s)).2 (3 + i) = s (3 + i) := by rw [i2, if_neg (by omega)]
    generalize upF (stkF x) i (0, s) = P at *
    unfold stkF
    rw [e3]
    by_cases q : i = p
    · subst q
      rw [if_pos hp]
      refine ⟨by rw [i1, if_pos (by omega), if_neg (by omega)]; omega, fun j => ?_⟩
      rw [i2, if_neg (by omega), if_neg (by omega)]
    · rw [if_neg (hu i (by omega) q)]
      by_cases q2 : i ≤ p
      · rw [if_pos q2] at i1
        refine ⟨by rw [i1, if_pos (by omega)], fun j => ?_⟩
        show wr P.2 (3 + P.1) (s (3 + i)) j = _
        rw [i1, wr]
        by_cases q3 : j = 3 + i
        · rw [if_pos q3, if_neg (by omega), q3]
        · rw [if_neg q3, i2, if_neg (by omega), if_neg (by omega)]
      · rw [if_neg q2] at i1
        refine ⟨by rw [i1, if_neg (by omega)]; omega, fun j => ?_⟩
        show wr P.2 (3 + P.1) (s (3 + i)) j = _
        rw [i1, wr]
        by_cases q3 : j = 3 + (i - 1)
        · rw [if_pos q3, if_pos (by omega)]
          congr 1
          omega
        · rw [if_neg q3, i2]
          by_cases q4 : 3 + p ≤ j ∧ j + 1 < 3 + i
          · rw [if_pos q4, if_pos (by omega)]
          · rw [if_neg q4, if_neg (by omega)]
/-- the row behind a strike: the box's place p falls out, its postponement grows -/
theorem stk_is {Y : Nat} {h s : sV} {k p : Nat} {y : Int32} (W : WS Y h s) (hp : p < nlS s) (hx : s (3 + p) = Int32.ofNat k) :
    (∀ j, j < 2 → stkS s k y j = s j) ∧ stkS s k y 2 = Int32.ofNat (nlS s - 1) ∧ (∀ i, i < nlS s - 1 → stkS s k y (3 + i) = if i < p then s (3 + i) else s (3 + i + 1)) ∧ (∀ k' f, f < 12 → bx (stkS s k y) k' f = if k' = k ∧ f = 2 then bx s k 2 + y else bx s k' f) := by
  have hl : nlS s ≤ 24 := W.2.1.2.2
  have hd := W.2.2.2.2.2
  have key := stk_up (n := nlS s) hx (fun i hi hne => by
    rw [← hx]
    rcases Nat.lt_or_gt_of_ne hne with z | z
    · exact hd i p z hp
    · exact fun q => hd p i z hi q.symm) (nlS s) (Nat.le_refl _)
  obtain ⟨k1, k2⟩ := key
  rw [if_neg (by omega)] at k1
  have eb : ∀ k' f, f < 12 → bx (wr (upF (stkF (Int32.ofNat k)) (nlS s) (0, s)).2 2 (Int32.ofNat (upF (stkF (Int32.ofNat k)) (nlS s) (0, s)).1)) k' f = bx s k' f := fun k' f hf => by
    rw [bx_wr (by omega)]
    unfold bx
    rw [k2, if_neg (by omega)]
  refine ⟨fun j hj => ?_, ?_, fun i hi => ?_, fun k' f hf => ?_⟩
  · unfold stkS
    rw [lay_lo (by omega), wr_n (by omega), k2, if_neg (by omega)]
  · unfold stkS
    rw [lay_lo (by omega), wr_s, k1]
  · unfold stkS
    rw [lay_lo (by omega), wr_n (by omega), k2]
    by_cases q : i < p
    · rw [if_neg (by omega), if_pos q]
    · rw [if_pos (by omega), if_neg q]
  · unfold stkS
    rw [bx_lay (by omega) hf, eb k 2 (by omega)]
    by_cases q : k' = k ∧ f = 2
    · rw [if_pos q, if_pos q]
    · rw [if_neg q, if_neg q, eb k' f hf]
theorem due_n {Y : Nat} {h s : sV} {k : Nat} (hY : Y ≤ 1000000) (W : WS Y h s) (H : WH h) (hk : k < nbS s) : dueS s h k = Int32.ofNat (nN (bx s k 1) + nN (h (94 + clN s k)) + nN (bx s k 2) + 1) ∧ bx s k 2 = Int32.ofNat (nN (bx s k 2)) ∧ nN (bx s k 1) ≤ nN (s 0) ∧ nN (h (94 + clN s k)) ≤ 50 ∧ nN (bx s k 2) ≤ 1000000 := by
  obtain ⟨a0, a1, a2, a3, -⟩ := W.2.2.2.1 k hk
  obtain ⟨p1, -⟩ := H.2.2.2.2.1 (clN s k) a1
  have e2 : bx s k 2 = Int32.ofNat (nN (bx s k 2)) ∧ nN (bx s k 2) ≤ 1000000 := by
    rcases a3 with z | z
    · rw [z, nN_o (by omega)]; exact ⟨rfl, by omega⟩
    · exact ⟨z.1.1, z.1.2.2⟩
  refine ⟨?_, e2.1, a2.2.2, p1.2.2, e2.2⟩
  have hd : dueS s h k = bx s k 1 + h (94 + clN s k) + bx s k 2 + Int32.ofNat 1 := rfl
  rw [hd, ← nAdd, ← nAdd, ← nAdd, ← a2.1, ← p1.1, ← e2.1]
theorem WS_stk {Y : Nat} {h s : sV} {k p y : Nat} (hY : Y ≤ 1000000) (W : WS Y h s) (H : WH h) (hk : k < nbS s) (hp : p < nlS s) (hx : s (3 + p) = Int32.ofNat k) (hy : y ≤ 20) : WS Y h (stkS s k (Int32.ofNat y)) := by
  obtain ⟨g1, g2, g3, g4⟩ := stk_is (y := Int32.ofNat y) W hp hx
  obtain ⟨a1, a2, a3, a4, a5, a6⟩ := W
  have W : WS Y h s := ⟨a1, a2, a3, a4, a5, a6⟩
  have hl : nlS s ≤ 24 := a2.2.2
  have hn : nbS s ≤ 24 := a1.2.2
  obtain ⟨d1, d2, d3, d4, d5⟩ := due_n hY W H hk
  have hdl := (a5 p hp).2.2
  rw [hx, nN_o (by omega), d1, a3.1, nLe (by have := a3.2.2; omega) (by have := a3.2.2; omega)] at hdl
  have n1 : nbS (stkS s k (Int32.ofNat y)) = nbS s := by unfold nbS; rw [g1 1 (by omega)]
  have n2 : nlS (stkS s k (Int32.ofNat y)) = nlS s - 1 := by
    show nN (stkS s k (Int32.ofNat y) 2) = nlS s - 1
    rw [g2]
    exact nN_o (by omega)
  have hdue : ∀ j, j ≠ k → dueS (stkS s k (Int32.ofNat y)) h j = dueS s h j := fun j hj => due_congr (by rw [g4 _ _ (by omega), if_neg (by omega)]) (by rw [g4 _ _ (by omega), if_neg (by omega)]) (by rw [g4 _ _ (by omega), if_neg (by omega)])
  refine ⟨by rw [g1 1 (by omega)]; exact a1, by rw [g2]; exact okI_of (by omega) (by omega) (by omega), by rw [g1 0 (by omega)]; exact a3, fun j hj => ?_, fun i hi => ?_, fun i j hij hj => ?_⟩
  · rw [n1] at hj
    by_cases q : j = k
    · subst q
      have w := a4 j hj
      obtain ⟨b0, b1, b2, b3, b4, b5, b6, b7⟩ := w
      have o : ∀ f, f < 12 → f ≠ 2 → bx (stkS s j (Int32.ofNat y)) j f = bx s j f := fun f hf h2 => by rw [g4 _ _ hf, if_neg (by omega)]
      unfold WB clN
      unfold clN at b1 d1 d4 hdl
      have h83 := b6.2.2
      have hy0 := a3.2.2
      have hc0 := b2.2.1
      rw [o 0 (by omega) (by omega), o 1 (by omega) (by omega), o 4 (by omega) (by omega), o 5 (by omega) (by omega), o 7 (by omega) (by omega), o 8 (by omega) (by omega), g1 0 (by omega), g4 _ 2 (by omega), if_pos ⟨rfl, rfl⟩, d2, nAdd]
      refine ⟨b0, b1, b2, Or.inr ⟨okI_of (by omega) (by omega) (by omega), ?_⟩, b4, b5, b6, fun i hi => ?_⟩
      · rw [nN_o (by omega)]
        omega
      · rw [o (9 + i) (by omega) (by omega)]
        exact b7 i hi
    · exact WB_same (a4 j hj) (g1 0 (by omega)) (fun f hf _ _ => by rw [g4 _ _ hf, if_neg (by omega)])
  · rw [n2] at hi
    rw [g3 i hi, n1, g1 0 (by omega)]
    have hne : ∀ i', i' < nlS s → i' ≠ p → nN (s (3 + i')) ≠ k := by
      intro i' h1 h2 h3
      have e : s (3 + i') = s (3 + p) := by rw [hx, (a5 i' h1).1.1, h3]
      rcases Nat.lt_or_gt_of_ne h2 with z | z
      · exact a6 i' p z hp e
      · exact a6 p i' z h1 e.symm
    by_cases q : i < p
    · rw [if_pos q, hdue _ (hne i (by omega) (by omega))]
      exact a5 i (by omega)
    · rw [if_neg q, show 3 + i + 1 = 3 + (i + 1) by omega, hdue _ (hne (i + 1) (by omega) (by omega))]
      exact a5 (i + 1) (by omega)
  · rw [n2] at hj
    rw [g3 i (by omega), g3 j hj]
    by_cases q : i < p
    · rw [if_pos q]
      by_cases q2 : j < p
      · rw [if_pos q2]; exact a6 i j hij (by omega)
      · rw [if_neg q2]; exact a6 i (j + 1) (by omega) (by omega)
    · rw [if_neg q, if_neg (by omega)]; exact a6 (i + 1) (j + 1) (by omega) (by omega)
end

/-! ===== the World's changes (printed by wip/p67/wld2.py) ===== -/
noncomputable section
/-- who is lent a box: since a year that has come -/
def SIN (s : sV) : Prop := ∀ k, k < nbS s → bx s k 5 ≠ nM1 → ∃ z, bx s k 6 = Int32.ofNat z ∧ z ≤ nN (s 0)
theorem dFuE (c : Nat) (h : c ≤ 1000) : ∃ u, dFuel = u + c ∧ 3999000 ≤ u := ⟨4000000 - c, by show 4000000 = _; omega, by omega⟩
theorem SIN_same {s s' : sV} (V : SIN s) (h1 : s' 1 = s 1) (h0 : nN (s 0) ≤ nN (s' 0)) (hb : ∀ k f, k < nbS s → (f = 5 ∨ f = 6) → bx s' k f = bx s k f) : SIN s' := by
  have n1 : nbS s' = nbS s := by unfold nbS; rw [h1]
  intro k hk h5
  rw [n1] at hk
  rw [hb k 5 hk (by omega)] at h5
  obtain ⟨z, z1, z2⟩ := V k hk h5
  exact ⟨z, by rw [hb k 6 hk (by omega)]; exact z1, by omega⟩
theorem SIN_f {s : sV} {k f : Nat} {x : Int32} (V : SIN s) (hf : f < 12) (h5 : f ≠ 5) (h6 : f ≠ 6) : SIN (lay s k f x) := SIN_same V (lay_lo (by omega)) (by rw [lay_lo (by omega)]; exact Nat.le_refl _) (fun k' f' _ h => lay_n hf (by omega) (by omega))
theorem SIN_5n {s : sV} {k : Nat} (V : SIN s) : SIN (lay s k 5 nM1) := by
  intro k' hk h5
  have n1 : nbS (lay s k 5 nM1) = nbS s := by unfold nbS; rw [lay_lo (by omega)]
  rw [n1] at hk
  rw [lay_n (by omega) (by omega) (by omega), lay_lo (by omega)]
  rw [bx_lay (by omega) (by omega)] at h5
  split at h5
  · exact absurd rfl h5
  · exact V k' hk h5
theorem SIN_lnd {Y : Nat} {h s : sV} {k : Nat} {r : Int32} (V : SIN s) (W : WS Y h s) : SIN (lndS s k r) := by
  intro k' hk h5
  have n1 : nbS (lndS s k r) = nbS s := by unfold nbS lndS; rw [lay_lo (by omega), lay_lo (by omega)]
  rw [n1] at hk
  have h0 : lndS s k r 0 = s 0 := by unfold lndS; rw [lay_lo (by omega), lay_lo (by omega)]
  rw [h0]
  by_cases q : k' = k
  · subst q
    exact ⟨nN (s 0), by unfold lndS; rw [lay_s (by omega)]; exact W.2.2.1.1, Nat.le_refl _⟩
  · unfold lndS at h5 ⊢
    rw [lay_oth (by omega) _ _ q (by omega), lay_oth (by omega) _ _ q (by omega)] at h5 ⊢
    exact V k' hk h5
theorem SIN_srv {Y : Nat} {h s : sV} {k : Nat} (V : SIN s) (W : WS Y h s) (hk : k < nbS s) : SIN (srvS s h k) := by
  unfold srvS
  cases hc : (gonB s k || selB s k || !decide (bx s k 5 = nM1)) with
  | true => exact V
  | false =>
    simp only [cond_false]
    cases hf : fnd (nN (bx s k 8)) fun i => mayH s h (bx s k (9 + i)) with
    | none => exact V
    | some i =>
      obtain ⟨hi, -, -⟩ := fnd_some hf
      have hw := (W.2.2.2.1 k hk).2.2.2.2.2.2.1.2.2
      refine SIN_lnd (SIN_same V (lv_lo (by omega)) (by rw [lv_lo (by omega)]; exact Nat.le_refl _) (fun k' f _ hf => lv_3457 hw hi (by omega))) (WS_lv W hk hi)
theorem SIN_eol {s : sV} {k : Nat} (V : SIN s) : SIN (eolF k s) := by
  unfold eolF
  cases (!decide (bx s k 5 = nM1) && !decide (s 0 - bx s k 6 < Int32.ofNat 2)) with
  | true => exact SIN_5n V
  | false => exact V
theorem yr_up {Y : Nat} {h s : sV} (hY : Y ≤ 1000000) (W : WS Y h s) : nN (s 0) ≤ nN (s 0 + Int32.ofNat 1) := by
  obtain ⟨y, y1, y2, y3, y4⟩ := W.2.2.1.ex
  rw [y1, nAdd, nN_o (by omega), nN_o (by omega)]
  omega
theorem SIN_pas {Y : Nat} {h s : sV} (hY : Y ≤ 1000000) (V : SIN s) (W : WS Y h s) : SIN (pasS s h) := by
  have V1 : SIN (wr s 0 (s 0 + Int32.ofNat 1)) := SIN_same V (wr_n (by omega)) (by rw [wr_s]; exact yr_up hY W) (fun k f _ _ => bx_wr (by omega))
  have W1 := WS_year hY W
  have V2 : ∀ k, k ≤ nbS s → SIN (upF eolF k (wr s 0 (s 0 + Int32.ofNat 1))) ∧ WS (Y + 1) h (upF eolF k (wr s 0 (s 0 + Int32.ofNat 1))) := fun k hk => upF_inv (P := fun t => SIN t ∧ WS (Y + 1) h t) ⟨V1, W1⟩ (fun k t _ q => ⟨SIN_eol q.1, WS_eol q.2⟩) k hk
  obtain ⟨V3, W3⟩ := V2 (nbS s) (Nat.le_refl _)
  have n1 : nbS (upF eolF (nbS s) (wr s 0 (s 0 + Int32.ofNat 1))) = nbS s := by unfold nbS; rw [eols_lo (by omega), wr_n (by omega)]
  have key := upF_inv (f := srvF h) (P := fun t => (SIN t ∧ WS (Y + 1) h t) ∧ nbS t = nbS s) (n := nbS s) (s := upF eolF (nbS s) (wr s 0 (s 0 + Int32.ofNat 1))) ⟨⟨V3, W3⟩, n1⟩ (fun k t hk q => by
    have hk' : k < nbS t := by rw [q.2]; exact hk
    refine ⟨⟨SIN_srv q.1.1 q.1.2 hk', WS_srv q.1.2 hk'⟩, ?_⟩
    show nbS (srvS t h k) = _
    unfold nbS
    rw [srv_lo (by omega)]
    exact q.2) (nbS s) (Nat.le_refl _)
  have n2 : nbS (wr s 0 (s 0 + Int32.ofNat 1)) = nbS s := by unfold nbS; rw [wr_n (by omega)]
  show SIN (upF (srvF h) (nbS s) (upF eolF (nbS s) (wr s 0 (s 0 + Int32.ofNat 1))))
  exact key.1.1
theorem SIN_yrs {Y : Nat} {h s : sV} (V : SIN s) (W : WS Y h s) : ∀ {n : Nat}, Y + n ≤ 1000000 → SIN (yrsS h n s)
  | 0, _ => V
  | n + 1, hY => SIN_pas (Y := Y + n) (by omega) (SIN_yrs V W (by omega)) (WS_yrs W (by omega))
theorem SIN_gbk {Y : Nat} {h s : sV} {k : Nat} (V : SIN s) (W : WS Y h s) (hk : k < nbS s) : SIN (gbkS s h k) := by
  have n1 : nbS (lay s k 5 nM1) = nbS s := by unfold nbS; rw [lay_lo (by omega)]
  exact SIN_srv (SIN_5n V) (WS_5 W (Or.inl rfl)) (by rw [n1]; exact hk)
theorem SIN_req {Y : Nat} {h s : sV} {k : Nat} {r : Int32} (V : SIN s) (W : WS Y h s) (hw : nN (bx s k 8) < 3) : SIN (reqS s h r k) := by
  unfold reqS
  cases reqB s h r k with
  | true => exact SIN_lnd V W
  | false => exact SIN_f (SIN_f V (by omega) (by omega) (by omega)) (by omega) (by omega) (by omega)
theorem SIN_new {s : sV} {c y q : Int32} (V : SIN s) (hn : nbS s < 24) : SIN (newS s c y q) := by
  have n1 : nbS (newS s c y q) = nbS s + 1 := by unfold nbS; rw [new_1, nN_o (by unfold nbS at hn ⊢; omega)]; rfl
  intro k hk h5
  rw [n1] at hk
  by_cases q : k = nbS s
  · rw [new_bx (by omega), if_pos q, if_pos rfl] at h5
    exact absurd rfl h5
  · rw [new_bx (by omega), if_neg q] at h5 ⊢
    rw [new_lo (by omega) (by omega)]
    exact V k (by omega) h5
theorem SIN_apr {s h : sV} (V : SIN s) : SIN (aprS s h) := by
  have key := upF_inv (f := aprF h) (P := fun p => SIN p.2) (n := nlS s) (s := (0, s)) V (fun k p _ q => by
    show SIN (aprF h k p).2
    unfold aprF
    split
    · exact SIN_same q (by show endS p.2 (nN (p.2 (3 + k))) 1 = p.2 1; exact end_lo (by omega)) (by show nN (p.2 0) ≤ nN (endS p.2 (nN (p.2 (3 + k))) 0); rw [end_lo (by omega)]; exact Nat.le_refl _) (fun k' f _ hf => end_n (by omega) (Or.inr (by omega)))
    · exact q) (nlS s) (Nat.le_refl _)
  exact SIN_same (s := (aprP s h).2) key (wr_n (by omega)) (by rw [show aprS s h 0 = (aprP s h).2 0 from wr_n (by omega)]; exact Nat.le_refl _) (fun k f _ _ => bx_wr (by omega))
theorem SIN_lists {Y : Nat} {h s : sV} (V : SIN s) (W : WS Y h s) : SIN (listsS s h) := by
  obtain ⟨-, h0, h1, hb⟩ := lists_en W
  exact SIN_same V h1 (by rw [h0]; exact Nat.le_refl _) (fun k f _ _ => hb k f)
theorem SIN_stk {s : sV} {k : Nat} {y : Int32} (V : SIN s) (hl : nlS s ≤ 24) : SIN (stkS s k y) := by
  obtain ⟨a, b, c⟩ := stk_1 (k := k) (y := y) hl
  exact SIN_same V a (by rw [b]; exact Nat.le_refl _) (fun k' f _ hf => c k' f (by omega) (by omega))
/-! ===== a box's numbers change ===== -/
theorem VB_congr {X X' : wX} {h s s' : sV} {k : Nat} (v : VB X h s k) (hw : nN (bx s k 8) ≤ 3) (h1 : X' (7 + 2 * k) = X (7 + 2 * k)) (h2 : X' (7 + 2 * k + 1) = X (7 + 2 * k + 1)) (hb : ∀ f, f < 12 → bx s' k f = bx s k f) : VB X' h s' k := by
  obtain ⟨v0, v1, v2, v3, v5, v6, v8, v7, vm, vq⟩ := v
  refine ⟨?_, ?_, ?_, ?_, ?_, ?_, ?_, ?_, fun z => ?_, fun i hi => ?_⟩
  · rw [h1, hb 0 (by omega)]; exact v0
  · rw [h1, hb 1 (by omega)]; exact v1
  · rw [h1, hb 2 (by omega)]; exact v2
  · rw [h1, hb 3 (by omega)]; exact v3
  · rw [h1, hb 5 (by omega)]; exact v5
  · rw [h1, hb 6 (by omega)]; exact v6
  · rw [h1, hb 8 (by omega)]; exact v8
  · rw [h1, hb 7 (by omega)]; exact v7
  · rw [hb 7 (by omega)] at z
    rw [h1, hb 4 (by omega)]
    exact vm z
  · rw [hb 8 (by omega)] at hi
    rw [h2, hb (9 + i) (by omega)]
    exact vq i hi
theorem VH_congr {X X' : wX} {h : sV} (v : VH X h) (h0 : ∀ f, f < 5 → X' 0 f = X 0 f) (hX : ∀ i, 1 ≤ i → i < 5 → X' i = X i) : VH X' h := by
  obtain ⟨a, b, c, d, f, g⟩ := v
  refine ⟨by rw [h0 1 (by omega)]; exact a, by rw [h0 2 (by omega)]; exact b, by rw [h0 3 (by omega)]; exact c, by rw [h0 4 (by omega)]; exact d, fun k hk => ?_, fun r hr => ?_⟩
  · rw [hX 1 (by omega) (by omega), hX 2 (by omega) (by omega), hX 4 (by omega) (by omega)]
    exact f k hk
  · rw [hX 3 (by omega) (by omega)]
    exact g r hr
theorem OKW_box {nb Y : Nat} {X X' : wX} {h s s' : sV} {k : Nat} (Z : OKW nb Y X h s) (W' : WS Y h s') (lo : ∀ j, j < 27 → s' j = s j) (oth : ∀ k' f, k' ≠ k → f < 12 → bx s' k' f = bx s k' f) (hX : ∀ i, i ≠ 7 + 2 * k → i ≠ 7 + 2 * k + 1 → X' i = X i) (hB : k < nb → VB X' h s' k) : OKW nb Y X' h s' := by
  have n1 : nbS s' = nbS s := by unfold nbS; rw [lo 1 (by omega)]
  have n2 : nlS s' = nlS s := by unfold nlS; rw [lo 2 (by omega)]
  obtain ⟨hn, ⟨a, b, c, d, f, g⟩, W, H⟩ := Z
  refine ⟨n1.trans hn, ⟨?_, ?_, ?_, VH_congr d (fun f _ => by rw [hX 0 (by omega) (by omega)]) (fun i h1 h2 => hX i (by omega) (by omega)), fun k' hk' => ?_, fun i hi => ?_⟩, W', H⟩
  · rw [hX 0 (by omega) (by omega), lo 0 (by omega)]; exact a
  · rw [hX 0 (by omega) (by omega), lo 1 (by omega)]; exact b
  · rw [hX 0 (by omega) (by omega), lo 2 (by omega)]; exact c
  · rw [n1] at hk'
    by_cases q : k' = k
    · subst q; exact hB (by omega)
    · exact VB_congr (f k' hk') (W.2.2.2.1 k' hk').2.2.2.2.2.2.1.2.2 (hX _ (by omega) (by omega)) (hX _ (by omega) (by omega)) (fun f hf => oth k' f q hf)
  · rw [n2] at hi
    have := W.2.1.2.2
    have hi24 : i < 24 := by unfold nlS at hi; omega
    rw [hX 6 (by omega) (by omega), lo _ (by omega)]
    exact g i hi
section
variable {e : dEnv} {d nb Y : Nat} {ad : Nat → Nat} {X : wX} {h s : sV} {m : dMem}
theorem OKW_lnd (Z : OKW nb Y X h s) {k : Nat} {x : Int32} (hk : k < nb) (hx : okI 0 5 x ∧ nN x < nN (h 3)) : OKW nb Y (uX X (7 + 2 * k) (wr (wr (X (7 + 2 * k)) 7 x) 8 (s 0))) h (lndS s k x) := by
  refine OKW_box (k := k) Z (WS_lnd Z.2.2.1 hx) (fun j hj => by unfold lndS; rw [lay_lo hj, lay_lo hj]) (fun k' f h1 h2 => by unfold lndS; rw [lay_oth (by omega) _ _ h1 h2, lay_oth (by omega) _ _ h1 h2]) (fun i h1 h2 => uX_n h1) (fun _ => ?_)
  obtain ⟨⟨v0, v1, v2, v3, v5, v6, v8, v7, vm, vq⟩, wb, hk24⟩ := Z.box hk
  have hw := wb.2.2.2.2.2.2.1.2.2
  have eo : ∀ f, f < 12 → f ≠ 5 → f ≠ 6 → bx (lndS s k x) k f = bx s k f := fun f h1 h2 h3 => by unfold lndS; rw [lay_n (by omega) h1 h3, lay_n (by omega) h1 h2]
  have e5 : bx (lndS s k x) k 5 = x := by unfold lndS; rw [lay_n (by omega) (by omega) (by omega), lay_s (by omega)]
  have e6 : bx (lndS s k x) k 6 = s 0 := by unfold lndS; rw [lay_s (by omega)]
  refine ⟨?_, ?_, ?_, ?_, ?_, ?_, ?_, ?_, fun z => ?_, fun i hi => ?_⟩
  · rw [uX_s, wr_n (by omega), wr_n (by omega), eo 0 (by omega) (by omega) (by omega)]; exact v0
  · rw [uX_s, wr_n (by omega), wr_n (by omega), eo 1 (by omega) (by omega) (by omega)]; exact v1
  · rw [uX_s, wr_n (by omega), wr_n (by omega), eo 2 (by omega) (by omega) (by omega)]; exact v2
  · rw [uX_s, wr_n (by omega), wr_n (by omega), eo 3 (by omega) (by omega) (by omega)]; exact v3
  · rw [uX_s, wr_n (by omega), wr_s, e5]
  · rw [uX_s, wr_s, e6]
  · rw [uX_s, wr_n (by omega), wr_n (by omega), eo 8 (by omega) (by omega) (by omega)]; exact v8
  · rw [uX_s, wr_n (by omega), wr_n (by omega), eo 7 (by omega) (by omega) (by omega)]; exact v7
  · rw [eo 7 (by omega) (by omega) (by omega)] at z
    rw [uX_s, wr_n (by omega), wr_n (by omega), wr_n (by omega), wr_n (by omega), eo 4 (by omega) (by omega) (by omega)]
    exact vm z
  · rw [eo 8 (by omega) (by omega) (by omega)] at hi
    rw [uX_n (by omega), eo (9 + i) (by omega) (by omega) (by omega)]
    exact vq i hi
theorem w_lends (hI : iAd ad (7 + 2 * nb)) (hE : oAd e nb ad) (Z : OKW nb Y X h s) {k : Nat} {x : Int32} (hk : k < nb) : dN e (d + 1) 183 [.ref (ad 0), .ref (ad (7 + 2 * k)), .int x] (wM nb ad X m) = some (.inl none, wM nb ad (uX X (7 + 2 * k) (wr (wr (X (7 + 2 * k)) 7 x) 8 (s 0))) m) := by
  have hy := Z.yr
  refine en183 (W_c0 hI) fun t ht => ?_
  obtain ⟨u, rfl⟩ := fu 9 ht rfl
  simp -implicitDefEqProofs (disch := omega) only [↓reduceIte, q183_0, uX_n, hy, bd_s, kI_r, kV_r, kL_r, rZ_1, rZ_0, rZ_b, rI_ite, bI_ite, ite_tf, ite_ft, bI0, bI1, bf_ite, nAdd, nMul, nLt, nEq, nEqM, nMEq, nMLt, nLtM, nMLt0, if_true, if_false, Nat.reduceAdd, Nat.reduceMul, Nat.zero_add, Nat.add_zero, decide_eq_true_eq, decide_true, decide_false, Nat.reduceEqDiff, Nat.reduceLT, Nat.reduceLeDiff, eq_self, Bool.false_eq_true, Bool.true_eq_false, Bool.not_eq_false', Bool.not_eq_true', ite_not, W_g1 hI, W_g2 hI, W_g3 hI, W_g4 hI, W_g11 hI, W_g12 hI, W_g13 hI, W_r5 hI, W_r6 hI, W_r7 hI, W_r8 hI, W_r9 hI, W_r10 hI, W_a1 hI, W_a2 hI, W_a3 hI, W_a4 hI, W_a6 hI, W_ab hI, B_g0 hI, B_g1 hI, B_g3 hI, B_g4 hI, B_g5 hI, B_g6 hI, B_g7 hI, B_g8 hI, B_g9 hI, B_g10 hI, B_r2 hI, B_aq hI, W_p11 hI hE, W_p12 hI hE, W_p13 hI hE, W_s6 hI hE, B_p3 hI hE, B_p4 hI hE, B_p5 hI hE, B_p6 hI hE, B_p7 hI hE, B_p8 hI hE, B_p9 hI hE, B_z10 hI hE, B_sq hI hE, uX_s, uX_uX]
/-- the queue shifts from place i on, t times -/
def shQ (i : Nat) : Nat → sV → sV := upF fun j g => wr g (i + j) (g (i + j + 1))
theorem shQ_at {i : Nat} {g : sV} : ∀ (t j : Nat), shQ i t g j = if i ≤ j ∧ j < i + t then g (j + 1) else g j
  | 0, j => by rw [if_neg (by omega)]; rfl
  | t + 1, j => by
    show wr (shQ i t g) (i + t) (shQ i t g (i + t + 1)) j = _
    by_cases q : j = i + t
    · rw [q, wr_s, shQ_at t, if_neg (by omega), if_pos (by omega)]
    · rw [wr_n q, shQ_at t]
      by_cases q2 : i ≤ j ∧ j < i + t
      · rw [if_pos q2, if_pos (by omega)]
      · rw [if_neg q2, if_neg (by omega)]
/-- one who waits is served: a row as the reference's -/
theorem OKW_srv (Z : OKW nb Y X h s) {k i w : Nat} (hk : k < nb) (hw : nN (bx s k 8) = w) (hi : i < w) (hx : okI 0 5 (bx s k (9 + i)) ∧ nN (bx s k (9 + i)) < nN (h 3)) :
    OKW nb Y (uX (uX X (7 + 2 * k) (wr (wr (wr (X (7 + 2 * k)) 7 (bx s k (9 + i))) 8 (s 0)) 9 (Int32.ofNat (w - 1)))) (7 + 2 * k + 1) (shQ i (w - 1 - i) (X (7 + 2 * k + 1)))) h (lndS (lvS s k i) k (bx s k (9 + i))) := by
  have hks : k < nbS s := by rw [Z.1]; exact hk
  obtain ⟨⟨v0, v1, v2, v3, v5, v6, v8, v7, vm, vq⟩, wb, hk24⟩ := Z.box hk
  have hw3 := wb.2.2.2.2.2.2.1.2.2
  have hi' : i < nN (bx s k 8) := by omega
  have lo9 : ∀ j, j < 27 → lvS s k i j = s j := fun j hj => lv_lo hj
  refine OKW_box (k := k) Z (WS_lnd (WS_lv Z.2.2.1 hks hi') hx) (fun j hj => by unfold lndS; rw [lay_lo hj, lay_lo hj, lv_lo hj]) (fun k' f h1 h2 => by unfold lndS; rw [lay_oth (by omega) _ _ h1 h2, lay_oth (by omega) _ _ h1 h2, lv_oth hw3 hi' h2 (Or.inl h1)]) (fun j h1 h2 => by rw [uX_n h2, uX_n h1]) (fun _ => ?_)
  have eo : ∀ f, f < 8 → f ≠ 5 → f ≠ 6 → bx (lndS (lvS s k i) k (bx s k (9 + i))) k f = bx s k f := fun f h1 h2 h3 => by unfold lndS; rw [lay_n (by omega) (by omega) h3, lay_n (by omega) (by omega) h2, lv_oth hw3 hi' (by omega) (Or.inr h1)]
  have e5 : bx (lndS (lvS s k i) k (bx s k (9 + i))) k 5 = bx s k (9 + i) := by unfold lndS; rw [lay_n (by omega) (by omega) (by omega), lay_s (by omega)]
  have e6 : bx (lndS (lvS s k i) k (bx s k (9 + i))) k 6 = s 0 := by unfold lndS; rw [lay_s (by omega), lv_lo (by omega)]
  have e8 : bx (lndS (lvS s k i) k (bx s k (9 + i))) k 8 = Int32.ofNat (w - 1) := by unfold lndS; rw [lay_n (by omega) (by omega) (by omega), lay_n (by omega) (by omega) (by omega), lv_8 hw3 hi', hw]
  have e9 : ∀ j, j < w - 1 → bx (lndS (lvS s k i) k (bx s k (9 + i))) k (9 + j) = if j < i then bx s k (9 + j) else bx s k (9 + (j + 1)) := fun j hj => by unfold lndS; rw [lay_n (by omega) (by omega) (by omega), lay_n (by omega) (by omega) (by omega), lv_9 hw3 hi' (by omega)]
  have hne : ¬ (7 + 2 * k = 7 + 2 * k + 1) := by omega
  refine ⟨?_, ?_, ?_, ?_, ?_, ?_, ?_, ?_, fun z => ?_, fun j hj => ?_⟩
  · rw [uX_n hne, uX_s, wr_n (by omega), wr_n (by omega), wr_n (by omega), eo 0 (by omega) (by omega) (by omega)]; exact v0
  · rw [uX_n hne, uX_s, wr_n (by omega), wr_n (by omega), wr_n (by omega), eo 1 (by omega) (by omega) (by omega)]; exact v1
  · rw [uX_n hne, uX_s, wr_n (by omega), wr_n (by omega), wr_n (by omega), eo 2 (by omega) (by omega) (by omega)]; exact v2
  · rw [uX_n hne, uX_s, wr_n (by omega), wr_n (by omega), wr_n (by omega), eo 3 (by omega) (by omega) (by omega)]; exact v3
  · rw [uX_n hne, uX_s, wr_n (by omega), wr_n (by omega), wr_s, e5]
  · rw [uX_n hne, uX_s, wr_n (by omega), wr_s, e6]
  · rw [uX_n hne, uX_s, wr_s, e8]
  · rw [uX_n hne, uX_s, wr_n (by omega), wr_n (by omega), wr_n (by omega), eo 7 (by omega) (by omega) (by omega)]; exact v7
  · rw [eo 7 (by omega) (by omega) (by omega)] at z
    rw [uX_n hne, uX_s, wr_n (by omega), wr_n (by omega), wr_n (by omega), wr_n (by omega), wr_n (by omega), wr_n (by omega), eo 4 (by omega) (by omega) (by omega)]
    exact vm z
  · rw [e8, nN_o (by omega)] at hj
    rw [uX_s, shQ_at, e9 j hj]
    by_cases q : j < i
    · rw [if_neg (by omega), if_pos q]
      exact vq j (by omega)
    · rw [if_pos (by omega), if_neg q]
      exact vq (j + 1) (by omega)
theorem w_serves (hI : iAd ad (7 + 2 * nb)) (hE : oAd e nb ad) (Z : OKW nb Y X h s) {k : Nat} (hk : k < nb) : ∃ X', dN e (d + 2) 185 [.ref (ad 0), .ref (ad (7 + 2 * k))] (wM nb ad X m) = some (.inl none, wM nb ad X' m) ∧ OKW nb Y X' h (srvS s h k) := by
  have hks : k < nbS s := by rw [Z.1]; exact hk
  obtain ⟨v, wb, hk24⟩ := Z.box hk
  obtain ⟨v0, v1, v2, v3, v5, v6, v8, v7, vm, vq⟩ := v
  have hy := Z.yr
  have hg := Z.gon hk
  have hh := Z.hld hk
  obtain ⟨w, w0, w1, w2, w3, w4, w5⟩ := Z.wt hk
  cases hc : (gonB s k || selB s k || !decide (bx s k 5 = nM1)) with
  | true =>
    refine ⟨X, ?_, by unfold srvS; rw [hc]; exact Z⟩
    refine en185 (W_c0 hI) fun t ht => ?_
    obtain ⟨u, rfl⟩ := fu 9 ht rfl
    cases hgg : gonB s k with
    | true => simp -implicitDefEqProofs (disch := omega) only [↓reduceIte, q185_0, q185_1, hg.1, hgg, bI_t, bd_s, kI_r, kV_r, kL_r, rZ_1, rZ_0, rZ_b, rI_ite, bI_ite, ite_tf, ite_ft, bI0, bI1, bf_ite, nAdd, nMul, nLt, nEq, nEqM, nMEq, nMLt, nLtM, nMLt0, if_true, if_false, Nat.reduceAdd, Nat.reduceMul, Nat.zero_add, Nat.add_zero, decide_eq_true_eq, decide_true, decide_false, Nat.reduceEqDiff, Nat.reduceLT, Nat.reduceLeDiff, eq_self, Bool.false_eq_true, Bool.true_eq_false, Bool.not_eq_false', Bool.not_eq_true', ite_not, W_g1 hI, W_g2 hI, W_g3 hI, W_g4 hI, W_g11 hI, W_g12 hI, W_g13 hI, W_r5 hI, W_r6 hI, W_r7 hI, W_r8 hI, W_r9 hI, W_r10 hI, W_a1 hI, W_a2 hI, W_a3 hI, W_a4 hI, W_a6 hI, W_ab hI, B_g0 hI, B_g1 hI, B_g3 hI, B_g4 hI, B_g5 hI, B_g6 hI, B_g7 hI, B_g8 hI, B_g9 hI, B_g10 hI, B_r2 hI, B_aq hI]
    | false =>
      by_cases hs : bx s k 3 < s 0
      · have h5 : ¬ bx s k 5 = nM1 := by
          intro z
          simp [hgg, selB, hs, z] at hc
        simp -implicitDefEqProofs (disch := omega) only [↓reduceIte, q185_0, q185_1, hg.1, hgg, bI_f, v3, hy, hs, hh.1, hh.2, h5, bd_s, kI_r, kV_r, kL_r, rZ_1, rZ_0, rZ_b, rI_ite, bI_ite, ite_tf, ite_ft, bI0, bI1, bf_ite, nAdd, nMul, nLt, nEq, nEqM, nMEq, nMLt, nLtM, nMLt0, if_true, if_false, Nat.reduceAdd, Nat.reduceMul, Nat.zero_add, Nat.add_zero, decide_eq_true_eq, decide_true, decide_false, Nat.reduceEqDiff, Nat.reduceLT, Nat.reduceLeDiff, eq_self, Bool.false_eq_true, Bool.true_eq_false, Bool.not_eq_false', Bool.not_eq_true', ite_not, W_g1 hI, W_g2 hI, W_g3 hI, W_g4 hI, W_g11 hI, W_g12 hI, W_g13 hI, W_r5 hI, W_r6 hI, W_r7 hI, W_r8 hI, W_r9 hI, W_r10 hI, W_a1 hI, W_a2 hI, W_a3 hI, W_a4 hI, W_a6 hI, W_ab hI, B_g0 hI, B_g1 hI, B_g3 hI, B_g4 hI, B_g5 hI, B_g6 hI, B_g7 hI, B_g8 hI, B_g9 hI, B_g10 hI, B_r2 hI, B_aq hI]
      · simp -implicitDefEqProofs (disch := omega) only [↓reduceIte, q185_0, q185_1, hg.1, hgg, bI_f, v3, hy, hs, bd_s, kI_r, kV_r, kL_r, rZ_1, rZ_0, rZ_b, rI_ite, bI_ite, ite_tf, ite_ft, bI0, bI1, bf_ite, nAdd, nMul, nLt, nEq, nEqM, nMEq, nMLt, nLtM, nMLt0, if_true, if_false, Nat.reduceAdd, Nat.reduceMul, Nat.zero_add, Nat.add_zero, decide_eq_true_eq, decide_true, decide_false, Nat.reduceEqDiff, Nat.reduceLT, Nat.reduceLeDiff, eq_self, Bool.false_eq_true, Bool.true_eq_false, Bool.not_eq_false', Bool.not_eq_true', ite_not, W_g1 hI, W_g2 hI, W_g3 hI, W_g4 hI, W_g11 hI, W_g12 hI, W_g13 hI, W_r5 hI, W_r6 hI, W_r7 hI, W_r8 hI, W_r9 hI, W_r10 hI, W_a1 hI, W_a2 hI, W_a3 hI, W_a4 hI, W_a6 hI, W_ab hI, B_g0 hI, B_g1 hI, B_g3 hI, B_g4 hI, B_g5 hI, B_g6 hI, B_g7 hI, B_g8 hI, B_g9 hI, B_g10 hI, B_r2 hI, B_aq hI]
  | false =>
    have hc' := hc
    simp only [Bool.or_eq_false_iff, Bool.not_eq_false', decide_eq_true_eq] at hc'
    obtain ⟨⟨hgg, hsl⟩, h5⟩ := hc'
    have hs : bx s k 3 < s 0 := by simpa [selB] using hsl
    have hQ : ∀ i, i < w → ∃ r, bx s k (9 + i) = Int32.ofNat r ∧ nN (bx s k (9 + i)) = r ∧ r < 6 ∧ X 3 r = h (40 + r) := fun i hi => by
      obtain ⟨r, r1, r2, r3, -, r5⟩ := w5 i hi
      exact ⟨r, r1, r2, r3, r5⟩
    have hlon := fun x : Int32 => w_loans (e := e) (d := d) (m := m) hI Z (x := x)
    have loop : ∀ n i t, i + n = w → (∀ j, j < i → mayH s h (bx s k (9 + j)) = false) → 40 ≤ t → (∃ X', runL e (dN e (d + 1)) 185 (t + n) 3 [some (.ref (ad 0)), some (.ref (ad (7 + 2 * k))), some (.int (Int32.ofNat i)), none] [] (wM nb ad X m) = some (.inl none, wM nb ad X' m) ∧ OKW nb Y X' h (srvS s h k)) := by
      intro n
      induction n with
      | zero =>
        intro i t hin hno ht
        have hiw : i = w := by omega
        subst hiw
        obtain ⟨t, rfl⟩ : ∃ t', t = t' + 9 := ⟨t - 9, by omega⟩
        have hf : fnd (nN (bx s k 8)) (fun i => mayH s h (bx s k (9 + i))) = none := fnd_isNone (fun j hj => hno j (by omega))
        refine ⟨X, ?_, by unfold srvS; rw [hc, hf]; exact Z⟩
        rw [Nat.add_zero, q185_3, B_g9 hI hk, bd_s, w0, if_neg (by rw [nLt (by omega) (by omega)]; omega), q185_4, B_g9 hI hk, bd_s, w0, if_pos rfl]
      | succ n ih =>
        intro i t hin hno ht
        have hiw : i < w := by omega
        obtain ⟨r, r1, r2, r3, r5⟩ := hQ i hiw
        cases hm : mayH s h (bx s k (9 + i)) with
        | false =>
          have hm' : ¬ Int32.ofNat (lonN s (Int32.ofNat r)) < h (40 + r) := by
            have := of_decide_eq_false hm
            rw [r1, nN_o (by omega)] at this
            exact this
          obtain ⟨X', g1, g2⟩ := ih (i + 1) t (by omega) (fun j hj => by
            by_cases q : j = i
            · rw [q]; exact hm
            · exact hno j (by omega)) ht
          refine ⟨X', ?_, g2⟩
          rw [← g1, show t + (n + 1) = (t + n) + 1 by omega]
          generalize t + n = u
          simp -implicitDefEqProofs (disch := omega) only [↓reduceIte, q185_3, w0, hiw, w4 i hiw, r1, hlon, r5, hm', bd_s, kI_r, kV_r, kL_r, rZ_1, rZ_0, rZ_b, rI_ite, bI_ite, ite_tf, ite_ft, bI0, bI1, bf_ite, nAdd, nMul, nLt, nEq, nEqM, nMEq, nMLt, nLtM, nMLt0, if_true, if_false, Nat.reduceAdd, Nat.reduceMul, Nat.zero_add, Nat.add_zero, decide_eq_true_eq, decide_true, decide_false, Nat.reduceEqDiff, Nat.reduceLT, Nat.reduceLeDiff, eq_self, Bool.false_eq_true, Bool.true_eq_false, Bool.not_eq_false', Bool.not_eq_true', ite_not, W_g1 hI, W_g2 hI, W_g3 hI, W_g4 hI, W_g11 hI, W_g12 hI, W_g13 hI, W_r5 hI, W_r6 hI, W_r7 hI, W_r8 hI, W_r9 hI, W_r10 hI, W_a1 hI, W_a2 hI, W_a3 hI, W_a4 hI, W_a6 hI, W_ab hI, B_g0 hI, B_g1 hI, B_g3 hI, B_g4 hI, B_g5 hI, B_g6 hI, B_g7 hI, B_g8 hI, B_g9 hI, B_g10 hI, B_r2 hI, B_aq hI]
        | true =>
          have hm' : Int32.ofNat (lonN s (Int32.ofNat r)) < h (40 + r) := by
            have := of_decide_eq_true hm
            rw [r1, nN_o (by omega)] at this
            exact this
          have hf : fnd (nN (bx s k 8)) (fun i => mayH s h (bx s k (9 + i))) = some i := fnd_is (by omega) hm (fun j hj => hno j hj)
          have hrow : srvS s h k = lndS (lvS s k i) k (bx s k (9 + i)) := by unfold srvS; rw [hc, hf]; rfl
          have Z' := OKW_srv Z hk w2 hiw (wb.2.2.2.2.2.2.2 i (by omega))
          refine ⟨_, ?_, by rw [hrow]; exact Z'⟩
          have hl := w_lends (d := d) (m := m) hI hE Z hk (x := bx s k (9 + i))
          have hwp : 0 < w := by omega
          have e9 : ∀ G', uX (uX X (7 + 2 * k) (wr (wr (wr (X (7 + 2 * k)) 7 (bx s k (9 + i))) 8 (s 0)) 9 (Int32.ofNat (w - 1)))) (7 + 2 * k + 1) G' (7 + 2 * k) 9 = Int32.ofNat (w - 1) := fun G' => by rw [uX_n (by omega), uX_s, wr_s]
          -- the shift
          have sh : ∀ c j t, j + c = w - 1 → i ≤ j → runL e (dN e (d + 1)) 185 (t + c + 9) 6 [none, some (.ref (ad (7 + 2 * k))), none, some (.int (Int32.ofNat j))] [] (wM nb ad (uX (uX X (7 + 2 * k) (wr (wr (wr (X (7 + 2 * k)) 7 (bx s k (9 + i))) 8 (s 0)) 9 (Int32.ofNat (w - 1)))) (7 + 2 * k + 1) (shQ i (j - i) (X (7 + 2 * k + 1)))) m) = some (.inl none, wM nb ad (uX (uX X (7 + 2 * k) (wr (wr (wr (X (7 + 2 * k)) 7 (bx s k (9 + i))) 8 (s 0)) 9 (Int32.ofNat (w - 1)))) (7 + 2 * k + 1) (shQ i (w - 1 - i) (X (7 + 2 * k + 1)))) m) := by
            intro c
            induction c with
            | zero =>
              intro j t hj hij
              have : j = w - 1 := by omega
              subst this
              rw [q185_6, B_g9 hI hk, bd_s, e9, if_neg (by rw [nLt (by omega) (by omega)]; omega), q185_7]
            | succ c ih =>
              intro j t hj hij
              have ih := ih (j + 1) t (by omega) (by omega)
              rw [show t + (c + 1) + 9 = (t + c + 9) + 1 by omega, ← ih]
              generalize t + c + 9 = u
              have hjw : j < w - 1 := by omega
              have ejs : shQ i (j + 1 - i) (X (7 + 2 * k + 1)) = wr (shQ i (j - i) (X (7 + 2 * k + 1))) j (shQ i (j - i) (X (7 + 2 * k + 1)) (j + 1)) := by
                rw [show j + 1 - i = (j - i) + 1 by omega]
                show wr (shQ i (j - i) (X (7 + 2 * k + 1))) (i + (j - i)) (shQ i (j - i) (X (7 + 2 * k + 1)) (i + (j - i) + 1)) = _
                rw [show i + (j - i) = j by omega]
              rw [ejs]
              simp -implicitDefEqProofs (disch := omega) only [↓reduceIte, q185_6, uX_n, wr_s, hjw, bd_s, kI_r, kV_r, kL_r, rZ_1, rZ_0, rZ_b, rI_ite, bI_ite, ite_tf, ite_ft, bI0, bI1, bf_ite, nAdd, nMul, nLt, nEq, nEqM, nMEq, nMLt, nLtM, nMLt0, if_true, if_false, Nat.reduceAdd, Nat.reduceMul, Nat.zero_add, Nat.add_zero, decide_eq_true_eq, decide_true, decide_false, Nat.reduceEqDiff, Nat.reduceLT, Nat.reduceLeDiff, eq_self, Bool.false_eq_true, Bool.true_eq_false, Bool.not_eq_false', Bool.not_eq_true', ite_not, W_g1 hI, W_g2 hI, W_g3 hI, W_g4 hI, W_g11 hI, W_g12 hI, W_g13 hI, W_r5 hI, W_r6 hI, W_r7 hI, W_r8 hI, W_r9 hI, W_r10 hI, W_a1 hI, W_a2 hI, W_a3 hI, W_a4 hI, W_a6 hI, W_ab hI, B_g0 hI, B_g1 hI, B_g3 hI, B_g4 hI, B_g5 hI, B_g6 hI, B_g7 hI, B_g8 hI, B_g9 hI, B_g10 hI, B_r2 hI, B_aq hI, W_p11 hI hE, W_p12 hI hE, W_p13 hI hE, W_s6 hI hE, B_p3 hI hE, B_p4 hI hE, B_p5 hI hE, B_p6 hI hE, B_p7 hI hE, B_p8 hI hE, B_p9 hI hE, B_z10 hI hE, B_sq hI hE, uX_s, uX_uX]
          obtain ⟨t, rfl⟩ : ∃ t', t = t' + (w - 1 - i) + 12 := ⟨t - (w - 1 - i) - 12, by omega⟩
          have s0 := sh (w - 1 - i) i (t + n + 1) (by omega) (Nat.le_refl _)
          rw [Nat.sub_self] at s0
          have e0 : uX (uX X (7 + 2 * k) (wr (wr (wr (X (7 + 2 * k)) 7 (bx s k (9 + i))) 8 (s 0)) 9 (Int32.ofNat (w - 1)))) (7 + 2 * k + 1) (shQ i 0 (X (7 + 2 * k + 1))) = uX X (7 + 2 * k) (wr (wr (wr (X (7 + 2 * k)) 7 (bx s k (9 + i))) 8 (s 0)) 9 (Int32.ofNat (w - 1))) := by
            funext j
            unfold uX
            by_cases q : j = 7 + 2 * k + 1
            · rw [if_pos q, q, if_neg (by omega)]; rfl
            · rw [if_neg q]
          rw [e0] at s0
          rw [← s0, show t + (w - 1 - i) + 12 + (n + 1) = (t + n + 1 + (w - 1 - i) + 9) + 3 by omega]
          generalize t + n + 1 + (w - 1 - i) + 9 = u
          have hiw2 : ¬ i = w := by omega
          have ha3 : aI (wM nb ad X m) 0 (ad 3) (bx s k (9 + i)) = some (h (40 + r)) := by rw [r1, W_a3 hI r3, r5]
          have hm2 : Int32.ofNat (lonN s (bx s k (9 + i))) < h (40 + r) := by rw [r1]; exact hm'
          have h9 : uX X (7 + 2 * k) (wr (wr (X (7 + 2 * k)) 7 (bx s k (9 + i))) 8 (s 0)) (7 + 2 * k) 9 = Int32.ofNat w := by rw [uX_s, wr_n (by omega), wr_n (by omega), w0]
          rw [q185_3, B_g9 hI hk, bd_s, w0, if_pos (by rw [nLt (by omega) (by omega)]; exact hiw), B_r2 hI hk, bd_s, B_aq hI hk (by omega), bd_s, w4 i hiw, hlon, kI_r, W_r7 hI, bd_s, B_r2 hI hk, bd_s, B_aq hI hk (by omega), bd_s, w4 i hiw, ha3, bd_s, if_pos hm2, q185_4, B_g9 hI hk, bd_s, w0, if_neg (by rw [nEq (by omega) (by omega)]; exact hiw2), q185_5, B_r2 hI hk, bd_s, B_aq hI hk (by omega), bd_s, w4 i hiw, hl, kV_r, B_g9 hI hk, bd_s, h9, nSub (by omega), B_p9 hI hE hk, bd_s, uX_uX, uX_s]
    obtain ⟨u, hu, hu2⟩ := dFuE 2 (by omega)
    obtain ⟨X', a, b⟩ := loop w 0 (u - w) (by omega) (fun j hj => by omega) (by omega)
    rw [show u - w + w = u by omega] at a
    refine ⟨X', ?_, b⟩
    rw [dN_at (j := 185) (as := [.ref (ad 0), .ref (ad (7 + 2 * k))]) (ls := [some (.ref (ad 0)), some (.ref (ad (7 + 2 * k))), none, none]) (W_c0 hI) rfl rfl rfl, hu]
    simp -implicitDefEqProofs (disch := omega) only [↓reduceIte, q185_0, q185_2, hg.1, hgg, bI_f, v3, hy, hs, hh.1, hh.2, h5, a, bd_s, kI_r, kV_r, kL_r, rZ_1, rZ_0, rZ_b, rI_ite, bI_ite, ite_tf, ite_ft, bI0, bI1, bf_ite, nAdd, nMul, nLt, nEq, nEqM, nMEq, nMLt, nLtM, nMLt0, if_true, if_false, Nat.reduceAdd, Nat.reduceMul, Nat.zero_add, Nat.add_zero, decide_eq_true_eq, decide_true, decide_false, Nat.reduceEqDiff, Nat.reduceLT, Nat.reduceLeDiff, eq_self, Bool.false_eq_true, Bool.true_eq_false, Bool.not_eq_false', Bool.not_eq_true', ite_not, W_g1 hI, W_g2 hI, W_g3 hI, W_g4 hI, W_g11 hI, W_g12 hI, W_g13 hI, W_r5 hI, W_r6 hI, W_r7 hI, W_r8 hI, W_r9 hI, W_r10 hI, W_a1 hI, W_a2 hI, W_a3 hI, W_a4 hI, W_a6 hI, W_ab hI, B_g0 hI, B_g1 hI, B_g3 hI, B_g4 hI, B_g5 hI, B_g6 hI, B_g7 hI, B_g8 hI, B_g9 hI, B_g10 hI, B_r2 hI, B_aq hI]

theorem OKW_que (Z : OKW nb Y X h s) {k w : Nat} {x : Int32} (hk : k < nb) (hw : nN (bx s k 8) = w) (hw3 : w < 3) (hx : okI 0 5 x ∧ nN x < nN (h 3)) : OKW nb Y (uX (uX X (7 + 2 * k + 1) (wr (X (7 + 2 * k + 1)) w x)) (7 + 2 * k) (wr (X (7 + 2 * k)) 9 (Int32.ofNat (w + 1)))) h (queS s x k) := by
  obtain ⟨⟨v0, v1, v2, v3, v5, v6, v8, v7, vm, vq⟩, wb, hk24⟩ := Z.box hk
  refine OKW_box (k := k) Z (WS_que Z.2.2.1 hx (by omega)) (fun j hj => by unfold queS; rw [lay_lo hj, lay_lo hj]) (fun k' f h1 h2 => by unfold queS; rw [lay_oth (by omega) _ _ h1 h2, lay_oth (by omega) _ _ h1 h2]) (fun j h1 h2 => by rw [uX_n h1, uX_n h2]) (fun _ => ?_)
  have eo : ∀ f, f < 8 → bx (queS s x k) k f = bx s k f := fun f h1 => by unfold queS; rw [lay_n (by omega) (by omega) (by omega), lay_n (by omega) (by omega) (by omega)]
  have e8 : bx (queS s x k) k 8 = Int32.ofNat (w + 1) := by unfold queS; rw [lay_s (by omega), hw]
  have e9 : ∀ j, j < 3 → bx (queS s x k) k (9 + j) = if j = w then x else bx s k (9 + j) := fun j hj => by
    unfold queS
    rw [lay_n (by omega) (by omega) (by omega), hw, bx_lay (by omega) (by omega)]
    by_cases q : j = w
    · rw [if_pos (by omega), if_pos q]
    · rw [if_neg (by omega), if_neg q]
  refine ⟨?_, ?_, ?_, ?_, ?_, ?_, ?_, ?_, fun z => ?_, fun j hj => ?_⟩
  · rw [uX_s, wr_n (by omega), eo 0 (by omega)]; exact v0
  · rw [uX_s, wr_n (by omega), eo 1 (by omega)]; exact v1
  · rw [uX_s, wr_n (by omega), eo 2 (by omega)]; exact v2
  · rw [uX_s, wr_n (by omega), eo 3 (by omega)]; exact v3
  · rw [uX_s, wr_n (by omega), eo 5 (by omega)]; exact v5
  · rw [uX_s, wr_n (by omega), eo 6 (by omega)]; exact v6
  · rw [uX_s, wr_s, e8]
  · rw [uX_s, wr_n (by omega), eo 7 (by omega)]; exact v7
  · rw [eo 7 (by omega)] at z
    rw [uX_s, wr_n (by omega), wr_n (by omega), eo 4 (by omega)]
    exact vm z
  · rw [e8, nN_o (by omega)] at hj
    rw [uX_n (by omega), uX_s, e9 j (by omega)]
    by_cases q : j = w
    · rw [if_pos q, q, wr_s]
    · rw [if_neg q, wr_n q]
      exact vq j (by omega)
theorem w_requests (hI : iAd ad (7 + 2 * nb)) (hE : oAd e nb ad) (Z : OKW nb Y X h s) {k r : Nat} (hk : k < nb) (hr : r < nN (h 3)) (hw : nN (bx s k 8) < 3) : ∃ X', dN e (d + 2) 184 [.ref (ad 0), .int (Int32.ofNat r), .int (Int32.ofNat k)] (wM nb ad X m) = rI (bI (reqB s h (Int32.ofNat r) k)) (wM nb ad X' m) ∧ OKW nb Y X' h (reqS s h (Int32.ofNat r) k) := by
  obtain ⟨v, wb, hk24⟩ := Z.box hk
  have hh := Z.hld hk
  obtain ⟨w, w0, w1, w2, w3, w4, w5⟩ := Z.wt hk
  have hlon := fun x : Int32 => w_loans (e := e) (d := d) (m := m) hI Z (x := x)
  obtain ⟨l1, l2, l3⟩ := WHlim Z.2.2.2 hr
  have hx : okI 0 5 (Int32.ofNat r) ∧ nN (Int32.ofNat r) < nN (h 3) := by
    rw [nN_o (by omega)]
    exact ⟨okI_of (by omega) (by omega) (by omega), hr⟩
  have hlim : X 3 r = h (40 + r) := Z.2.1.2.2.2.1.2.2.2.2.2 r hr
  have hmb : mayH s h (Int32.ofNat r) = decide (Int32.ofNat (lonN s (Int32.ofNat r)) < h (40 + r)) := by unfold mayH; rw [nN_o (by omega)]
  cases hb : reqB s h (Int32.ofNat r) k with
  | true =>
    have hb2 := hb
    simp only [reqB, Bool.and_eq_true, decide_eq_true_eq] at hb2
    obtain ⟨h5, hm⟩ := hb2
    rw [hmb] at hm
    have hm := of_decide_eq_true hm
    have hl := w_lends (d := d) (m := m) hI hE Z hk (x := Int32.ofNat r)
    refine ⟨_, ?_, by unfold reqS; rw [hb]; exact OKW_lnd Z hk hx⟩
    refine en184 (W_c0 hI) fun t ht => ?_
    obtain ⟨u, rfl⟩ := fu 9 ht rfl
    simp -implicitDefEqProofs (disch := omega) only [↓reduceIte, q184_0, q184_2, q184_4, hh.1, hh.2, h5, hlon, hlim, hm, hl, bd_s, kI_r, kV_r, kL_r, rZ_1, rZ_0, rZ_b, rI_ite, bI_ite, ite_tf, ite_ft, bI0, bI1, bf_ite, nAdd, nMul, nLt, nEq, nEqM, nMEq, nMLt, nLtM, nMLt0, if_true, if_false, Nat.reduceAdd, Nat.reduceMul, Nat.zero_add, Nat.add_zero, decide_eq_true_eq, decide_true, decide_false, Nat.reduceEqDiff, Nat.reduceLT, Nat.reduceLeDiff, eq_self, Bool.false_eq_true, Bool.true_eq_false, Bool.not_eq_false', Bool.not_eq_true', ite_not, W_g1 hI, W_g2 hI, W_g3 hI, W_g4 hI, W_g11 hI, W_g12 hI, W_g13 hI, W_r5 hI, W_r6 hI, W_r7 hI, W_r8 hI, W_r9 hI, W_r10 hI, W_a1 hI, W_a2 hI, W_a3 hI, W_a4 hI, W_a6 hI, W_ab hI, B_g0 hI, B_g1 hI, B_g3 hI, B_g4 hI, B_g5 hI, B_g6 hI, B_g7 hI, B_g8 hI, B_g9 hI, B_g10 hI, B_r2 hI, B_aq hI, W_p11 hI hE, W_p12 hI hE, W_p13 hI hE, W_s6 hI hE, B_p3 hI hE, B_p4 hI hE, B_p5 hI hE, B_p6 hI hE, B_p7 hI hE, B_p8 hI hE, B_p9 hI hE, B_z10 hI hE, B_sq hI hE, uX_s, uX_uX]
  | false =>
    refine ⟨_, ?_, by unfold reqS; rw [hb]; exact OKW_que Z hk w2 (by omega) hx⟩
    refine en184 (W_c0 hI) fun t ht => ?_
    obtain ⟨u, rfl⟩ := fu 9 ht rfl
    by_cases h5 : bx s k 5 = nM1
    · have hm : ¬ Int32.ofNat (lonN s (Int32.ofNat r)) < h (40 + r) := by
        intro z
        rw [reqB, hmb] at hb
        simp [h5, z] at hb
      simp -implicitDefEqProofs (disch := omega) only [↓reduceIte, q184_0, q184_1, q184_2, q184_3, q184_4, hh.1, hh.2, h5, hlon, hlim, hm, w0, uX_n, bd_s, kI_r, kV_r, kL_r, rZ_1, rZ_0, rZ_b, rI_ite, bI_ite, ite_tf, ite_ft, bI0, bI1, bf_ite, nAdd, nMul, nLt, nEq, nEqM, nMEq, nMLt, nLtM, nMLt0, if_true, if_false, Nat.reduceAdd, Nat.reduceMul, Nat.zero_add, Nat.add_zero, decide_eq_true_eq, decide_true, decide_false, Nat.reduceEqDiff, Nat.reduceLT, Nat.reduceLeDiff, eq_self, Bool.false_eq_true, Bool.true_eq_false, Bool.not_eq_false', Bool.not_eq_true', ite_not, W_g1 hI, W_g2 hI, W_g3 hI, W_g4 hI, W_g11 hI, W_g12 hI, W_g13 hI, W_r5 hI, W_r6 hI, W_r7 hI, W_r8 hI, W_r9 hI, W_r10 hI, W_a1 hI, W_a2 hI, W_a3 hI, W_a4 hI, W_a6 hI, W_ab hI, B_g0 hI, B_g1 hI, B_g3 hI, B_g4 hI, B_g5 hI, B_g6 hI, B_g7 hI, B_g8 hI, B_g9 hI, B_g10 hI, B_r2 hI, B_aq hI, W_p11 hI hE, W_p12 hI hE, W_p13 hI hE, W_s6 hI hE, B_p3 hI hE, B_p4 hI hE, B_p5 hI hE, B_p6 hI hE, B_p7 hI hE, B_p8 hI hE, B_p9 hI hE, B_z10 hI hE, B_sq hI hE, uX_s, uX_uX]
    · simp -implicitDefEqProofs (disch := omega) only [↓reduceIte, q184_0, q184_1, q184_2, q184_3, q184_4, hh.1, hh.2, h5, w0, uX_n, bd_s, kI_r, kV_r, kL_r, rZ_1, rZ_0, rZ_b, rI_ite, bI_ite, ite_tf, ite_ft, bI0, bI1, bf_ite, nAdd, nMul, nLt, nEq, nEqM, nMEq, nMLt, nLtM, nMLt0, if_true, if_false, Nat.reduceAdd, Nat.reduceMul, Nat.zero_add, Nat.add_zero, decide_eq_true_eq, decide_true, decide_false, Nat.reduceEqDiff, Nat.reduceLT, Nat.reduceLeDiff, eq_self, Bool.false_eq_true, Bool.true_eq_false, Bool.not_eq_false', Bool.not_eq_true', ite_not, W_g1 hI, W_g2 hI, W_g3 hI, W_g4 hI, W_g11 hI, W_g12 hI, W_g13 hI, W_r5 hI, W_r6 hI, W_r7 hI, W_r8 hI, W_r9 hI, W_r10 hI, W_a1 hI, W_a2 hI, W_a3 hI, W_a4 hI, W_a6 hI, W_ab hI, B_g0 hI, B_g1 hI, B_g3 hI, B_g4 hI, B_g5 hI, B_g6 hI, B_g7 hI, B_g8 hI, B_g9 hI, B_g10 hI, B_r2 hI, B_aq hI, W_p11 hI hE, W_p12 hI hE, W_p13 hI hE, W_s6 hI hE, B_p3 hI hE, B_p4 hI hE, B_p5 hI hE, B_p6 hI hE, B_p7 hI hE, B_p8 hI hE, B_p9 hI hE, B_z10 hI hE, B_sq hI hE, uX_s, uX_uX]

theorem OKW_eol (Z : OKW nb Y X h s) {k : Nat} : OKW nb Y (uX X (7 + 2 * k) (wr (X (7 + 2 * k)) 7 nM1)) h (lay s k 5 nM1) := by
  refine OKW_box (k := k) Z (WS_5 Z.2.2.1 (Or.inl rfl)) (fun j hj => lay_lo hj) (lay_oth (by omega)) (fun j h1 h2 => uX_n h1) (fun hk => ?_)
  obtain ⟨⟨v0, v1, v2, v3, v5, v6, v8, v7, vm, vq⟩, wb, hk24⟩ := Z.box hk
  have hw := wb.2.2.2.2.2.2.1.2.2
  have eo : ∀ f, f < 12 → f ≠ 5 → bx (lay s k 5 nM1) k f = bx s k f := fun f h1 h2 => lay_n (by omega) h1 h2
  refine ⟨?_, ?_, ?_, ?_, ?_, ?_, ?_, ?_, fun z => ?_, fun i hi => ?_⟩
  · rw [uX_s, wr_n (by omega), eo 0 (by omega) (by omega)]; exact v0
  · rw [uX_s, wr_n (by omega), eo 1 (by omega) (by omega)]; exact v1
  · rw [uX_s, wr_n (by omega), eo 2 (by omega) (by omega)]; exact v2
  · rw [uX_s, wr_n (by omega), eo 3 (by omega) (by omega)]; exact v3
  · rw [uX_s, wr_s, lay_s (by omega)]
  · rw [uX_s, wr_n (by omega), eo 6 (by omega) (by omega)]; exact v6
  · rw [uX_s, wr_n (by omega), eo 8 (by omega) (by omega)]; exact v8
  · rw [uX_s, wr_n (by omega), eo 7 (by omega) (by omega)]; exact v7
  · rw [eo 7 (by omega) (by omega)] at z
    rw [uX_s, wr_n (by omega), wr_n (by omega), eo 4 (by omega) (by omega)]
    exact vm z
  · rw [eo 8 (by omega) (by omega)] at hi
    rw [uX_n (by omega), eo (9 + i) (by omega) (by omega)]
    exact vq i hi
theorem OKW_year (hY : Y ≤ 1000000) (Z : OKW nb Y X h s) : OKW nb (Y + 1) (uX X 0 (wr (X 0) 11 (s 0 + Int32.ofNat 1))) h (wr s 0 (s 0 + Int32.ofNat 1)) := by
  have W' := WS_year hY Z.2.2.1
  obtain ⟨hn, ⟨a, b, c, d, f, g⟩, W, H⟩ := Z
  have n1 : nbS (wr s 0 (s 0 + Int32.ofNat 1)) = nbS s := by unfold nbS; rw [wr_n (by omega)]
  have n2 : nlS (wr s 0 (s 0 + Int32.ofNat 1)) = nlS s := by unfold nlS; rw [wr_n (by omega)]
  refine ⟨n1.trans hn, ⟨?_, ?_, ?_, VH_congr d (fun f hf => by rw [uX_s, wr_n (by omega)]) (fun i h1 h2 => uX_n (by omega)), fun k hk => ?_, fun i hi => ?_⟩, W', H⟩
  · rw [uX_s, wr_s, wr_s]
  · rw [uX_s, wr_n (by omega), wr_n (by omega)]; exact b
  · rw [uX_s, wr_n (by omega), wr_n (by omega)]; exact c
  · rw [n1] at hk
    exact VB_congr (f k hk) (W.2.2.2.1 k hk).2.2.2.2.2.2.1.2.2 (uX_n (by omega)) (uX_n (by omega)) (fun f hf => bx_wr (by omega))
  · rw [n2] at hi
    rw [uX_n (by omega), wr_n (by omega)]
    exact g i hi
theorem w_pass (hY : Y ≤ 1000000) (hI : iAd ad (7 + 2 * nb)) (hE : oAd e nb ad) (Z : OKW nb Y X h s) (V : SIN s) {i n : Nat} (hi : i < n) (hn : n ≤ 1000) : ∃ X', (∀ t, 2000 ≤ t → ∃ t', t ≤ t' + 2000 ∧ runL e (dN e (d + 2)) 186 t 1 [some (.ref (ad 0)), some (.int (Int32.ofNat n)), some (.int (Int32.ofNat i)), none] [] (wM nb ad X m) = runL e (dN e (d + 2)) 186 t' 1 [some (.ref (ad 0)), some (.int (Int32.ofNat n)), some (.int (Int32.ofNat (i + 1))), none] [] (wM nb ad X' m)) ∧ OKW nb (Y + 1) X' h (pasS s h) := by
  have hy := Z.yr
  have Z1 := OKW_year hY Z
  have V1 : SIN (wr s 0 (s 0 + Int32.ofNat 1)) := SIN_same V (wr_n (by omega)) (by rw [wr_s]; exact yr_up hY Z.2.2.1) (fun k f _ _ => bx_wr (by omega))
  obtain ⟨hX, hs1, hn0, hn24⟩ := Z1.nbE
  obtain ⟨yy, y1, y2, y3, y4⟩ := Z1.y
  have ey : wr s 0 (s 0 + Int32.ofNat 1) 0 = s 0 + Int32.ofNat 1 := wr_s _ _ _
  -- loans that are over
  obtain ⟨X2, ⟨Z2, V2⟩, g2⟩ := lp_exC (c := 2) (n := nb) (P := fun k X => OKW nb (Y + 1) X h (upF eolF k (wr s 0 (s 0 + Int32.ofNat 1))) ∧ SIN (upF eolF k (wr s 0 (s 0 + Int32.ofNat 1)))) (G := fun t k X => runL e (dN e (d + 2)) 186 t 2 [some (.ref (ad 0)), some (.int (Int32.ofNat n)), some (.int (Int32.ofNat i)), some (.int (Int32.ofNat k))] [] (wM nb ad X m)) (fun k X1 hk hP => by
    obtain ⟨Z1, V1⟩ := hP
    obtain ⟨hX, hs1, hn0, hn24⟩ := Z1.nbE
    obtain ⟨v, wb, hk24⟩ := Z1.box hk
    obtain ⟨v0, v1, v2, v3, v5, v6, v8, v7, vm, vq⟩ := v
    have hh := Z1.hld hk
    have hy := Z1.yr
    rw [eols_lo (by omega)] at hy
    by_cases h5 : bx (upF eolF k (wr s 0 (s 0 + Int32.ofNat 1))) k 5 = nM1
    · refine ⟨X1, ⟨by rw [upF_s, eol_n h5]; exact Z1, by rw [upF_s, eol_n h5]; exact V1⟩, fun t => ⟨t, Nat.le_refl _, ?_⟩⟩
      simp -implicitDefEqProofs (disch := omega) only [↓reduceIte, q186_2, q186_3, hX, hk, hh.1, hh.2, h5, bd_s, kI_r, kV_r, kL_r, rZ_1, rZ_0, rZ_b, rI_ite, bI_ite, ite_tf, ite_ft, bI0, bI1, bf_ite, nAdd, nMul, nLt, nEq, nEqM, nMEq, nMLt, nLtM, nMLt0, if_true, if_false, Nat.reduceAdd, Nat.reduceMul, Nat.zero_add, Nat.add_zero, decide_eq_true_eq, decide_true, decide_false, Nat.reduceEqDiff, Nat.reduceLT, Nat.reduceLeDiff, eq_self, Bool.false_eq_true, Bool.true_eq_false, Bool.not_eq_false', Bool.not_eq_true', ite_not, W_g1 hI, W_g2 hI, W_g3 hI, W_g4 hI, W_g11 hI, W_g12 hI, W_g13 hI, W_r5 hI, W_r6 hI, W_r7 hI, W_r8 hI, W_r9 hI, W_r10 hI, W_a1 hI, W_a2 hI, W_a3 hI, W_a4 hI, W_a6 hI, W_ab hI, B_g0 hI, B_g1 hI, B_g3 hI, B_g4 hI, B_g5 hI, B_g6 hI, B_g7 hI, B_g8 hI, B_g9 hI, B_g10 hI, B_r2 hI, B_aq hI, W_p11 hI hE, W_p12 hI hE, W_p13 hI hE, W_s6 hI hE, B_p3 hI hE, B_p4 hI hE, B_p5 hI hE, B_p6 hI hE, B_p7 hI hE, B_p8 hI hE, B_p9 hI hE, B_z10 hI hE, B_sq hI hE, uX_s, uX_uX]
    · obtain ⟨z, z1, z2⟩ := V1 k (by omega) h5
      rw [eols_lo (by omega), y2] at z2
      have hsub : (upF eolF k (wr s 0 (s 0 + Int32.ofNat 1)) 0 - bx (upF eolF k (wr s 0 (s 0 + Int32.ofNat 1))) k 6 < Int32.ofNat 2) = (yy - z < 2) := by
        rw [eols_lo (by omega), y1, z1, nSub z2, nLt (by have := nN_lt31 (wr s 0 (s 0 + Int32.ofNat 1) 0); omega) (by omega)]
      have hyy : yy < 2147483648 := by have := nN_lt31 (wr s 0 (s 0 + Int32.ofNat 1) 0); omega
      rw [y1] at hy
      by_cases h6 : yy - z < 2
      · have e1 : eolF k (upF eolF k (wr s 0 (s 0 + Int32.ofNat 1))) = upF eolF k (wr s 0 (s 0 + Int32.ofNat 1)) := eol_n2 (by rw [hsub]; exact h6)
        refine ⟨X1, ⟨by rw [upF_s, e1]; exact Z1, by rw [upF_s, e1]; exact V1⟩, fun t => ⟨t, Nat.le_refl _, ?_⟩⟩
        have h7 : ¬ z + 1 < yy := by omega
        simp -implicitDefEqProofs (disch := omega) only [↓reduceIte, q186_2, q186_3, hX, hk, hh.1, hh.2, h5, hy, v6, z1, h7, bd_s, kI_r, kV_r, kL_r, rZ_1, rZ_0, rZ_b, rI_ite, bI_ite, ite_tf, ite_ft, bI0, bI1, bf_ite, nAdd, nMul, nLt, nEq, nEqM, nMEq, nMLt, nLtM, nMLt0, if_true, if_false, Nat.reduceAdd, Nat.reduceMul, Nat.zero_add, Nat.add_zero, decide_eq_true_eq, decide_true, decide_false, Nat.reduceEqDiff, Nat.reduceLT, Nat.reduceLeDiff, eq_self, Bool.false_eq_true, Bool.true_eq_false, Bool.not_eq_false', Bool.not_eq_true', ite_not, W_g1 hI, W_g2 hI, W_g3 hI, W_g4 hI, W_g11 hI, W_g12 hI, W_g13 hI, W_r5 hI, W_r6 hI, W_r7 hI, W_r8 hI, W_r9 hI, W_r10 hI, W_a1 hI, W_a2 hI, W_a3 hI, W_a4 hI, W_a6 hI, W_ab hI, B_g0 hI, B_g1 hI, B_g3 hI, B_g4 hI, B_g5 hI, B_g6 hI, B_g7 hI, B_g8 hI, B_g9 hI, B_g10 hI, B_r2 hI, B_aq hI, W_p11 hI hE, W_p12 hI hE, W_p13 hI hE, W_s6 hI hE, B_p3 hI hE, B_p4 hI hE, B_p5 hI hE, B_p6 hI hE, B_p7 hI hE, B_p8 hI hE, B_p9 hI hE, B_z10 hI hE, B_sq hI hE, uX_s, uX_uX]
      · have e1 : eolF k (upF eolF k (wr s 0 (s 0 + Int32.ofNat 1))) = lay (upF eolF k (wr s 0 (s 0 + Int32.ofNat 1))) k 5 nM1 := eol_y h5 (by rw [hsub]; exact h6)
        refine ⟨_, ⟨by rw [upF_s, e1]; exact OKW_eol Z1, by rw [upF_s, e1]; exact SIN_5n V1⟩, fun t => ⟨t, Nat.le_refl _, ?_⟩⟩
        have h7 : z + 1 < yy := by omega
        simp -implicitDefEqProofs (disch := omega) only [↓reduceIte, q186_2, q186_3, hX, hk, hh.1, hh.2, h5, hy, v6, z1, h7, bd_s, kI_r, kV_r, kL_r, rZ_1, rZ_0, rZ_b, rI_ite, bI_ite, ite_tf, ite_ft, bI0, bI1, bf_ite, nAdd, nMul, nLt, nEq, nEqM, nMEq, nMLt, nLtM, nMLt0, if_true, if_false, Nat.reduceAdd, Nat.reduceMul, Nat.zero_add, Nat.add_zero, decide_eq_true_eq, decide_true, decide_false, Nat.reduceEqDiff, Nat.reduceLT, Nat.reduceLeDiff, eq_self, Bool.false_eq_true, Bool.true_eq_false, Bool.not_eq_false', Bool.not_eq_true', ite_not, W_g1 hI, W_g2 hI, W_g3 hI, W_g4 hI, W_g11 hI, W_g12 hI, W_g13 hI, W_r5 hI, W_r6 hI, W_r7 hI, W_r8 hI, W_r9 hI, W_r10 hI, W_a1 hI, W_a2 hI, W_a3 hI, W_a4 hI, W_a6 hI, W_ab hI, B_g0 hI, B_g1 hI, B_g3 hI, B_g4 hI, B_g5 hI, B_g6 hI, B_g7 hI, B_g8 hI, B_g9 hI, B_g10 hI, B_r2 hI, B_aq hI, W_p11 hI hE, W_p12 hI hE, W_p13 hI hE, W_s6 hI hE, B_p3 hI hE, B_p4 hI hE, B_p5 hI hE, B_p6 hI hE, B_p7 hI hE, B_p8 hI hE, B_p9 hI hE, B_z10 hI hE, B_sq hI hE, uX_s, uX_uX]) nb 0 (uX X 0 (wr (X 0) 11 (s 0 + Int32.ofNat 1))) (by omega) ⟨Z1, V1⟩
  -- who waits is served
  obtain ⟨X3, Z3, g3⟩ := lp_exC (c := 1) (n := nb) (P := fun k X => OKW nb (Y + 1) X h (upF (srvF h) k (upF eolF nb (wr s 0 (s 0 + Int32.ofNat 1))))) (G := fun t k X => runL e (dN e (d + 2)) 186 t 5 [some (.ref (ad 0)), some (.int (Int32.ofNat n)), some (.int (Int32.ofNat i)), some (.int (Int32.ofNat k))] [] (wM nb ad X m)) (fun k X1 hk Z1 => by
    obtain ⟨hX, hs1, hn0, hn24⟩ := Z1.nbE
    obtain ⟨X', a, b⟩ := w_serves (d := d) (m := m) hI hE Z1 hk
    refine ⟨X', b, fun t => ⟨t, Nat.le_refl _, ?_⟩⟩
    simp -implicitDefEqProofs (disch := omega) only [↓reduceIte, q186_5, hX, hk, a, bd_s, kI_r, kV_r, kL_r, rZ_1, rZ_0, rZ_b, rI_ite, bI_ite, ite_tf, ite_ft, bI0, bI1, bf_ite, nAdd, nMul, nLt, nEq, nEqM, nMEq, nMLt, nLtM, nMLt0, if_true, if_false, Nat.reduceAdd, Nat.reduceMul, Nat.zero_add, Nat.add_zero, decide_eq_true_eq, decide_true, decide_false, Nat.reduceEqDiff, Nat.reduceLT, Nat.reduceLeDiff, eq_self, Bool.false_eq_true, Bool.true_eq_false, Bool.not_eq_false', Bool.not_eq_true', ite_not, W_g1 hI, W_g2 hI, W_g3 hI, W_g4 hI, W_g11 hI, W_g12 hI, W_g13 hI, W_r5 hI, W_r6 hI, W_r7 hI, W_r8 hI, W_r9 hI, W_r10 hI, W_a1 hI, W_a2 hI, W_a3 hI, W_a4 hI, W_a6 hI, W_ab hI, B_g0 hI, B_g1 hI, B_g3 hI, B_g4 hI, B_g5 hI, B_g6 hI, B_g7 hI, B_g8 hI, B_g9 hI, B_g10 hI, B_r2 hI, B_aq hI, W_p11 hI hE, W_p12 hI hE, W_p13 hI hE, W_s6 hI hE, B_p3 hI hE, B_p4 hI hE, B_p5 hI hE, B_p6 hI hE, B_p7 hI hE, B_p8 hI hE, B_p9 hI hE, B_z10 hI hE, B_sq hI hE, uX_s, uX_uX]) nb 0 X2 (by omega) Z2
  refine ⟨X3, fun t ht => ?_, ?_⟩
  · obtain ⟨t, rfl⟩ : ∃ t', t = t' + 1 := ⟨t - 1, by omega⟩
    obtain ⟨t2, a1, a2⟩ := g2 t (by omega)
    obtain ⟨t2, rfl⟩ : ∃ t', t2 = t' + 2 := ⟨t2 - 2, by omega⟩
    obtain ⟨t3, b1, b2⟩ := g3 t2 (by omega)
    obtain ⟨t3, rfl⟩ : ∃ t', t3 = t' + 2 := ⟨t3 - 2, by omega⟩
    have hX2 := Z2.nbE.1
    have hX3 := Z3.nbE.1
    refine ⟨t3, by omega, ?_⟩
    have c1 : runL e (dN e (d + 2)) 186 (t + 1) 1 [some (.ref (ad 0)), some (.int (Int32.ofNat n)), some (.int (Int32.ofNat i)), none] [] (wM nb ad X m) = runL e (dN e (d + 2)) 186 t 2 [some (.ref (ad 0)), some (.int (Int32.ofNat n)), some (.int (Int32.ofNat i)), some (.int (Int32.ofNat 0))] [] (wM nb ad (uX X 0 (wr (X 0) 11 (s 0 + Int32.ofNat 1))) m) := by
      simp -implicitDefEqProofs (disch := omega) only [↓reduceIte, q186_1, hi, hy, bd_s, kI_r, kV_r, kL_r, rZ_1, rZ_0, rZ_b, rI_ite, bI_ite, ite_tf, ite_ft, bI0, bI1, bf_ite, nAdd, nMul, nLt, nEq, nEqM, nMEq, nMLt, nLtM, nMLt0, if_true, if_false, Nat.reduceAdd, Nat.reduceMul, Nat.zero_add, Nat.add_zero, decide_eq_true_eq, decide_true, decide_false, Nat.reduceEqDiff, Nat.reduceLT, Nat.reduceLeDiff, eq_self, Bool.false_eq_true, Bool.true_eq_false, Bool.not_eq_false', Bool.not_eq_true', ite_not, W_g1 hI, W_g2 hI, W_g3 hI, W_g4 hI, W_g11 hI, W_g12 hI, W_g13 hI, W_r5 hI, W_r6 hI, W_r7 hI, W_r8 hI, W_r9 hI, W_r10 hI, W_a1 hI, W_a2 hI, W_a3 hI, W_a4 hI, W_a6 hI, W_ab hI, B_g0 hI, B_g1 hI, B_g3 hI, B_g4 hI, B_g5 hI, B_g6 hI, B_g7 hI, B_g8 hI, B_g9 hI, B_g10 hI, B_r2 hI, B_aq hI, W_p11 hI hE, W_p12 hI hE, W_p13 hI hE, W_s6 hI hE, B_p3 hI hE, B_p4 hI hE, B_p5 hI hE, B_p6 hI hE, B_p7 hI hE, B_p8 hI hE, B_p9 hI hE, B_z10 hI hE, B_sq hI hE, uX_s, uX_uX]
    have c2 : runL e (dN e (d + 2)) 186 (t2 + 2) 2 [some (.ref (ad 0)), some (.int (Int32.ofNat n)), some (.int (Int32.ofNat i)), some (.int (Int32.ofNat nb))] [] (wM nb ad X2 m) = runL e (dN e (d + 2)) 186 t2 5 [some (.ref (ad 0)), some (.int (Int32.ofNat n)), some (.int (Int32.ofNat i)), some (.int (Int32.ofNat 0))] [] (wM nb ad X2 m) := by
      simp -implicitDefEqProofs (disch := omega) only [↓reduceIte, q186_2, q186_4, hX2, Nat.lt_irrefl, bd_s, kI_r, kV_r, kL_r, rZ_1, rZ_0, rZ_b, rI_ite, bI_ite, ite_tf, ite_ft, bI0, bI1, bf_ite, nAdd, nMul, nLt, nEq, nEqM, nMEq, nMLt, nLtM, nMLt0, if_true, if_false, Nat.reduceAdd, Nat.reduceMul, Nat.zero_add, Nat.add_zero, decide_eq_true_eq, decide_true, decide_false, Nat.reduceEqDiff, Nat.reduceLT, Nat.reduceLeDiff, eq_self, Bool.false_eq_true, Bool.true_eq_false, Bool.not_eq_false', Bool.not_eq_true', ite_not, W_g1 hI, W_g2 hI, W_g3 hI, W_g4 hI, W_g11 hI, W_g12 hI, W_g13 hI, W_r5 hI, W_r6 hI, W_r7 hI, W_r8 hI, W_r9 hI, W_r10 hI, W_a1 hI, W_a2 hI, W_a3 hI, W_a4 hI, W_a6 hI, W_ab hI, B_g0 hI, B_g1 hI, B_g3 hI, B_g4 hI, B_g5 hI, B_g6 hI, B_g7 hI, B_g8 hI, B_g9 hI, B_g10 hI, B_r2 hI, B_aq hI, W_p11 hI hE, W_p12 hI hE, W_p13 hI hE, W_s6 hI hE, B_p3 hI hE, B_p4 hI hE, B_p5 hI hE, B_p6 hI hE, B_p7 hI hE, B_p8 hI hE, B_p9 hI hE, B_z10 hI hE, B_sq hI hE, uX_s, uX_uX]
    have c3 : runL e (dN e (d + 2)) 186 (t3 + 2) 5 [some (.ref (ad 0)), some (.int (Int32.ofNat n)), some (.int (Int32.ofNat i)), some (.int (Int32.ofNat nb))] [] (wM nb ad X3 m) = runL e (dN e (d + 2)) 186 t3 1 [some (.ref (ad 0)), some (.int (Int32.ofNat n)), some (.int (Int32.ofNat (i + 1))), none] [] (wM nb ad X3 m) := by
      simp -implicitDefEqProofs (disch := omega) only [↓reduceIte, q186_5, q186_6, hX3, Nat.lt_irrefl, bd_s, kI_r, kV_r, kL_r, rZ_1, rZ_0, rZ_b, rI_ite, bI_ite, ite_tf, ite_ft, bI0, bI1, bf_ite, nAdd, nMul, nLt, nEq, nEqM, nMEq, nMLt, nLtM, nMLt0, if_true, if_false, Nat.reduceAdd, Nat.reduceMul, Nat.zero_add, Nat.add_zero, decide_eq_true_eq, decide_true, decide_false, Nat.reduceEqDiff, Nat.reduceLT, Nat.reduceLeDiff, eq_self, Bool.false_eq_true, Bool.true_eq_false, Bool.not_eq_false', Bool.not_eq_true', ite_not, W_g1 hI, W_g2 hI, W_g3 hI, W_g4 hI, W_g11 hI, W_g12 hI, W_g13 hI, W_r5 hI, W_r6 hI, W_r7 hI, W_r8 hI, W_r9 hI, W_r10 hI, W_a1 hI, W_a2 hI, W_a3 hI, W_a4 hI, W_a6 hI, W_ab hI, B_g0 hI, B_g1 hI, B_g3 hI, B_g4 hI, B_g5 hI, B_g6 hI, B_g7 hI, B_g8 hI, B_g9 hI, B_g10 hI, B_r2 hI, B_aq hI, W_p11 hI hE, W_p12 hI hE, W_p13 hI hE, W_s6 hI hE, B_p3 hI hE, B_p4 hI hE, B_p5 hI hE, B_p6 hI hE, B_p7 hI hE, B_p8 hI hE, B_p9 hI hE, B_z10 hI hE, B_sq hI hE, uX_s, uX_uX]
    exact c1.trans (a2.trans (c2.trans (b2.trans c3)))
  · have e1 : nbS (wr s 0 (s 0 + Int32.ofNat 1)) = nb := hn0
    have e2 : nbS s = nb := Z.1
    show OKW nb (Y + 1) X3 h (upF (srvF h) (nbS s) (upF eolF (nbS s) (wr s 0 (s 0 + Int32.ofNat 1))))
    rw [e2]
    exact Z3
theorem w_years (hI : iAd ad (7 + 2 * nb)) (hE : oAd e nb ad) (Z : OKW nb Y X h s) (V : SIN s) {n : Nat} (hn : n ≤ 1000) (hY : Y + n ≤ 1000000) : ∃ X', dN e (d + 3) 186 [.ref (ad 0), .int (Int32.ofNat n)] (wM nb ad X m) = some (.inl none, wM nb ad X' m) ∧ OKW nb (Y + n) X' h (yrsS h n s) := by
  have key : ∀ i, i ≤ n → ∃ X', (∀ t, 2000 * i ≤ t → ∃ t', t ≤ t' + 2000 * i ∧ runL e (dN e (d + 2)) 186 t 1 [some (.ref (ad 0)), some (.int (Int32.ofNat n)), some (.int (Int32.ofNat 0)), none] [] (wM nb ad X m) = runL e (dN e (d + 2)) 186 t' 1 [some (.ref (ad 0)), some (.int (Int32.ofNat n)), some (.int (Int32.ofNat i)), none] [] (wM nb ad X' m)) ∧ OKW nb (Y + i) X' h (yrsS h i s) := by
    intro i
    induction i with
    | zero => intro _; exact ⟨X, fun t ht => ⟨t, by omega, rfl⟩, Z⟩
    | succ i ih =>
      intro hi
      obtain ⟨X1, g1, Z1⟩ := ih (by omega)
      obtain ⟨X2, g2, Z2⟩ := w_pass (d := d) (m := m) (Y := Y + i) (by omega) hI hE Z1 (SIN_yrs V Z.2.2.1 (by omega)) (show i < n by omega) hn
      refine ⟨X2, fun t ht => ?_, Z2⟩
      obtain ⟨t1, a1, a2⟩ := g1 t (by omega)
      obtain ⟨t2, b1, b2⟩ := g2 t1 (by omega)
      exact ⟨t2, by omega, a2.trans b2⟩
  obtain ⟨X', g, Z'⟩ := key n (Nat.le_refl _)
  refine ⟨X', ?_, Z'⟩
  refine en186 (W_c0 hI) fun t ht => ?_
  obtain ⟨u, rfl⟩ := fu 1 ht rfl
  rw [q186_0]
  obtain ⟨t', h1, h2⟩ := g u (by omega)
  rw [h2]
  obtain ⟨t', rfl⟩ : ∃ t'', t' = t'' + 2 := ⟨t' - 2, by omega⟩
  simp -implicitDefEqProofs (disch := omega) only [↓reduceIte, q186_1, q186_7, Nat.lt_irrefl, bd_s, kI_r, kV_r, kL_r, rZ_1, rZ_0, rZ_b, rI_ite, bI_ite, ite_tf, ite_ft, bI0, bI1, bf_ite, nAdd, nMul, nLt, nEq, nEqM, nMEq, nMLt, nLtM, nMLt0, if_true, if_false, Nat.reduceAdd, Nat.reduceMul, Nat.zero_add, Nat.add_zero, decide_eq_true_eq, decide_true, decide_false, Nat.reduceEqDiff, Nat.reduceLT, Nat.reduceLeDiff, eq_self, Bool.false_eq_true, Bool.true_eq_false, Bool.not_eq_false', Bool.not_eq_true', ite_not, W_g1 hI, W_g2 hI, W_g3 hI, W_g4 hI, W_g11 hI, W_g12 hI, W_g13 hI, W_r5 hI, W_r6 hI, W_r7 hI, W_r8 hI, W_r9 hI, W_r10 hI, W_a1 hI, W_a2 hI, W_a3 hI, W_a4 hI, W_a6 hI, W_ab hI, B_g0 hI, B_g1 hI, B_g3 hI, B_g4 hI, B_g5 hI, B_g6 hI, B_g7 hI, B_g8 hI, B_g9 hI, B_g10 hI, B_r2 hI, B_aq hI, W_p11 hI hE, W_p12 hI hE, W_p13 hI hE, W_s6 hI hE, B_p3 hI hE, B_p4 hI hE, B_p5 hI hE, B_p6 hI hE, B_p7 hI hE, B_p8 hI hE, B_p9 hI hE, B_z10 hI hE, B_sq hI hE, uX_s, uX_uX]

end
end

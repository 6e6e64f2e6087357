/-! ===== marks differ, the destroyed are neither lent nor sealed, loans stay within limits: kept by every change ===== -/
noncomputable section
def INV (h s : sV) : Prop := (∀ i j, i < j → j < nbS s → gonB s i = false → gonB s j = false → bx s i 4 ≠ bx s j 4) ∧ (∀ k, k < nbS s → gonB s k = true → bx s k 5 = nM1 ∧ bx s k 3 = Int32.ofNat 0) ∧ ∀ r, r < nN (h 3) → lonN s (Int32.ofNat r) ≤ nN (h (40 + r))
theorem gon_congr {s s' : sV} {k : Nat} (e : bx s' k 7 = bx s k 7) : gonB s' k = gonB s k := by
  unfold gonB
  rw [e]
theorem lon_le {s s' : sV} {x : Int32} (h1 : nbS s' = nbS s) (hb : ∀ k, k < nbS s → bx s' k 5 = x → bx s k 5 = x) : lonN s' x ≤ lonN s x := by
  unfold lonN
  rw [h1]
  exact cnt_mono (fun i hi hp => decide_eq_true (hb i hi (of_decide_eq_true hp)))
/-- what touches no mark, no loan, no end and no seal -/
theorem INV_same {h s s' : sV} (V : INV h s) (h1 : s' 1 = s 1) (hb : ∀ k f, k < nbS s → (f = 3 ∨ f = 4 ∨ f = 5 ∨ f = 7) → bx s' k f = bx s k f) : INV h s' := by
  obtain ⟨v1, v2, v3⟩ := V
  have n1 : nbS s' = nbS s := by unfold nbS; rw [h1]
  have g : ∀ k, k < nbS s → gonB s' k = gonB s k := fun k hk => gon_congr (hb k 7 hk (by omega))
  refine ⟨fun i j hij hj gi gj => ?_, fun k hk gk => ?_, fun r hr => ?_⟩
  · rw [n1] at hj
    rw [g i (by omega)] at gi
    rw [g j hj] at gj
    rw [hb i 4 (by omega) (by omega), hb j 4 hj (by omega)]
    exact v1 i j hij hj gi gj
  · rw [n1] at hk
    rw [g k hk] at gk
    rw [hb k 5 hk (by omega), hb k 3 hk (by omega)]
    exact v2 k hk gk
  · exact Nat.le_trans (lon_le n1 (fun k hk q => by rw [← hb k 5 hk (by omega)]; exact q)) (v3 r hr)
theorem INV_3 {h s : sV} {k : Nat} {x : Int32} (V : INV h s) (hg : gonB s k = false) : INV h (lay s k 3 x) := by
  obtain ⟨v1, v2, v3⟩ := V
  have n1 : nbS (lay s k 3 x) = nbS s := by unfold nbS; rw [lay_lo (by omega)]
  have e : ∀ k' f, f < 12 → f ≠ 3 → bx (lay s k 3 x) k' f = bx s k' f := fun k' f h1 h2 => lay_n (by omega) h1 h2
  have g : ∀ k', gonB (lay s k 3 x) k' = gonB s k' := fun k' => gon_congr (e k' 7 (by omega) (by omega))
  refine ⟨fun i j hij hj gi gj => ?_, fun k' hk gk => ?_, fun r hr => ?_⟩
  · rw [n1] at hj; rw [g] at gi gj
    rw [e _ _ (by omega) (by omega), e _ _ (by omega) (by omega)]
    exact v1 i j hij hj gi gj
  · rw [n1] at hk; rw [g] at gk
    have hne : k' ≠ k := fun q => by rw [q, hg] at gk; cases gk
    rw [e _ _ (by omega) (by omega), lay_oth (by omega) _ _ hne (by omega)]
    exact v2 k' hk gk
  · exact Nat.le_trans (lon_le n1 (fun k' _ q => by rw [← e k' 5 (by omega) (by omega)]; exact q)) (v3 r hr)
theorem boxOn_no {s : sV} {x : Int32} (hn : nbS s ≤ 24) : boxOnS s x = nM1 ↔ ∀ k, k < nbS s → bx s k 4 ≠ x := by
  unfold boxOnS fI
  cases hq : fnd (nbS s) fun k => decide (bx s k 4 = x) with
  | none =>
    refine ⟨fun _ k hk q => ?_, fun _ => rfl⟩
    have := fnd_none hq k hk
    exact absurd q (of_decide_eq_false this)
  | some j =>
    obtain ⟨h1, h2, -⟩ := fnd_some hq
    refine ⟨fun q => ?_, fun q => absurd (of_decide_eq_true h2) (q j h1)⟩
    have q' : Int32.ofNat j = nM1 := q
    rw [nEqM (by omega)] at q'
    exact q'.elim
theorem INV_4 {h s : sV} {k : Nat} {x : Int32} (V : INV h s) (hn : nbS s ≤ 24) (hb : boxOnS s x = nM1) : INV h (lay s k 4 x) := by
  obtain ⟨v1, v2, v3⟩ := V
  have hno := (boxOn_no hn).mp hb
  have n1 : nbS (lay s k 4 x) = nbS s := by unfold nbS; rw [lay_lo (by omega)]
  have e : ∀ k' f, f < 12 → f ≠ 4 → bx (lay s k 4 x) k' f = bx s k' f := fun k' f h1 h2 => lay_n (by omega) h1 h2
  have g : ∀ k', gonB (lay s k 4 x) k' = gonB s k' := fun k' => gon_congr (e k' 7 (by omega) (by omega))
  refine ⟨fun i j hij hj gi gj => ?_, fun k' hk gk => ?_, fun r hr => ?_⟩
  · rw [n1] at hj; rw [g] at gi gj
    rw [bx_lay (by omega) (by omega), bx_lay (by omega) (by omega)]
    by_cases hi : i = k
    · rw [if_pos ⟨hi, rfl⟩, if_neg (by omega)]
      exact fun q => hno j hj q.symm
    · rw [if_neg (by omega)]
      by_cases hj2 : j = k
      · rw [if_pos ⟨hj2, rfl⟩]
        exact hno i (by omega)
      · rw [if_neg (by omega)]
        exact v1 i j hij hj gi gj
  · rw [n1] at hk; rw [g] at gk
    rw [e _ _ (by omega) (by omega), e _ _ (by omega) (by omega)]
    exact v2 k' hk gk
  · exact Nat.le_trans (lon_le n1 (fun k' _ q => by rw [← e k' 5 (by omega) (by omega)]; exact q)) (v3 r hr)
theorem INV_5n {h s : sV} {k : Nat} (V : INV h s) : INV h (lay s k 5 nM1) := by
  obtain ⟨v1, v2, v3⟩ := V
  have n1 : nbS (lay s k 5 nM1) = nbS s := by unfold nbS; rw [lay_lo (by omega)]
  have e : ∀ k' f, f < 12 → f ≠ 5 → bx (lay s k 5 nM1) k' f = bx s k' f := fun k' f h1 h2 => lay_n (by omega) h1 h2
  have g : ∀ k', gonB (lay s k 5 nM1) k' = gonB s k' := fun k' => gon_congr (e k' 7 (by omega) (by omega))
  refine ⟨fun i j hij hj gi gj => ?_, fun k' hk gk => ?_, fun r hr => ?_⟩
  · rw [n1] at hj; rw [g] at gi gj
    rw [e _ _ (by omega) (by omega), e _ _ (by omega) (by omega)]
    exact v1 i j hij hj gi gj
  · rw [n1] at hk; rw [g] at gk
    obtain ⟨a, b⟩ := v2 k' hk gk
    rw [e _ 3 (by omega) (by omega), bx_lay (by omega) (by omega)]
    refine ⟨?_, b⟩
    split
    · rfl
    · exact a
  · by_cases hr2 : r < 2147483648
    · refine Nat.le_trans (lon_le n1 (fun k' _ q => ?_)) (v3 r hr)
      rw [bx_lay (by omega) (by omega)] at q
      split at q
      · rw [nMEq hr2] at q; exact q.elim
      · exact q
    · exact absurd (Nat.lt_trans hr (nN_lt31 _)) hr2
theorem INV_lnd {h s : sV} {k r0 : Nat} (V : INV h s) (hg : gonB s k = false) (hr0 : r0 < 6) (hm : mayH s h (Int32.ofNat r0) = true) (hl : h (40 + r0) = Int32.ofNat (nN (h (40 + r0)))) (hn : nbS s ≤ 24) : INV h (lndS s k (Int32.ofNat r0)) := by
  obtain ⟨v1, v2, v3⟩ := V
  have n1 : nbS (lndS s k (Int32.ofNat r0)) = nbS s := by unfold nbS lndS; rw [lay_lo (by omega), lay_lo (by omega)]
  have e : ∀ k' f, f < 12 → f ≠ 5 → f ≠ 6 → bx (lndS s k (Int32.ofNat r0)) k' f = bx s k' f := fun k' f h1 h2 h3 => by unfold lndS; rw [lay_n (by omega) h1 h3, lay_n (by omega) h1 h2]
  have e5 : ∀ k', bx (lndS s k (Int32.ofNat r0)) k' 5 = if k' = k then Int32.ofNat r0 else bx s k' 5 := fun k' => by
    unfold lndS
    rw [lay_n (by omega) (by omega) (by omega), bx_lay (by omega) (by omega)]
    by_cases q : k' = k
    · rw [if_pos ⟨q, rfl⟩, if_pos q]
    · rw [if_neg (fun z => q z.1), if_neg q]
  have g : ∀ k', gonB (lndS s k (Int32.ofNat r0)) k' = gonB s k' := fun k' => gon_congr (e k' 7 (by omega) (by omega) (by omega))
  refine ⟨fun i j hij hj gi gj => ?_, fun k' hk gk => ?_, fun r hr => ?_⟩
  · rw [n1] at hj; rw [g] at gi gj
    rw [e _ _ (by omega) (by omega) (by omega), e _ _ (by omega) (by omega) (by omega)]
    exact v1 i j hij hj gi gj
  · rw [n1] at hk; rw [g] at gk
    have hne : k' ≠ k := fun q => by rw [q, hg] at gk; cases gk
    rw [e _ 3 (by omega) (by omega) (by omega), e5, if_neg hne]
    exact v2 k' hk gk
  · have hr31 := Nat.lt_trans hr (nN_lt31 _)
    by_cases q : r = r0
    · subst q
      have h1 : lonN (lndS s k (Int32.ofNat r)) (Int32.ofNat r) ≤ lonN s (Int32.ofNat r) + 1 := by
        unfold lonN
        rw [n1]
        refine Nat.le_trans (cnt_mono (q := fun i => decide (bx s i 5 = Int32.ofNat r) || decide (i = k)) (fun i hi hp => ?_)) (cnt_or1).1
        have hp := of_decide_eq_true hp
        rw [e5] at hp
        by_cases q : i = k
        · simp [q]
        · rw [if_neg q] at hp
          simp [hp]
      have h2 : lonN s (Int32.ofNat r) < nN (h (40 + r)) := by
        have h3 := of_decide_eq_true hm
        rw [nN_o hr31, hl] at h3
        have h4 := cnt_le (fun k => decide (bx s k 5 = Int32.ofNat r)) (nbS s)
        have h5 : lonN s (Int32.ofNat r) ≤ nbS s := h4
        rw [nLt (by omega) (nN_lt31 _)] at h3
        exact h3
      omega
    · refine Nat.le_trans (lon_le n1 (fun k' _ hp => ?_)) (v3 r hr)
      rw [e5] at hp
      split at hp
      · rw [nEq (by omega) hr31] at hp
        exact absurd hp.symm q
      · exact hp
theorem WHlim {h : sV} (H : WH h) {r : Nat} (hr : r < nN (h 3)) : r < 6 ∧ h (40 + r) = Int32.ofNat (nN (h (40 + r))) ∧ nN (h (40 + r)) ≤ 4 := by
  obtain ⟨-, -, -, a4, -, a6⟩ := H
  obtain ⟨b1, -⟩ := a6 r hr
  exact ⟨by have := a4.2.2; omega, b1.1, b1.2.2⟩
theorem lv_3457 {s : sV} {k p k' f : Nat} (hw : nN (bx s k 8) ≤ 3) (hp : p < nN (bx s k 8)) (hf : f < 8) : bx (lvS s k p) k' f = bx s k' f := lv_oth hw hp (by omega) (Or.inr hf)
theorem INV_lv {h s : sV} {k p : Nat} (V : INV h s) (hw : nN (bx s k 8) ≤ 3) (hp : p < nN (bx s k 8)) : INV h (lvS s k p) := INV_same V (lv_lo (by omega)) (fun k' f _ hf => lv_3457 hw hp (by omega))
theorem INV_srv {Y : Nat} {h s : sV} {k : Nat} (V : INV h s) (W : WS Y h s) (H : WH h) (hk : k < nbS s) : INV h (srvS s h k) := by
  unfold srvS
  cases hc : (gonB s k || selB s k || !decide (bx s k 5 = nM1)) with
  | true => exact V
  | false =>
    simp only [cond_false]
    simp only [Bool.or_eq_false_iff] at hc
    obtain ⟨⟨hg, -⟩, -⟩ := hc
    cases hf : fnd (nN (bx s k 8)) fun i => mayH s h (bx s k (9 + i)) with
    | none => exact V
    | some i =>
      obtain ⟨hi, hm, -⟩ := fnd_some hf
      have wb := W.2.2.2.1 k hk
      have hw := wb.2.2.2.2.2.2.1.2.2
      obtain ⟨a1, a2⟩ := wb.2.2.2.2.2.2.2 i hi
      obtain ⟨r, r1, r2, -, r4⟩ := a1.ex
      rw [r2] at a2
      show INV h (lndS (lvS s k i) k (bx s k (9 + i)))
      rw [r1] at hm ⊢
      obtain ⟨l1, l2, l3⟩ := WHlim H a2
      have n1 : nbS (lvS s k i) = nbS s := by unfold nbS; rw [lv_lo (by omega)]
      have hlon : lonN (lvS s k i) (Int32.ofNat r) = lonN s (Int32.ofNat r) := by
        unfold lonN
        rw [n1]
        exact cnt_congr (fun j _ => by rw [lv_3457 hw hi (by omega)])
      refine INV_lnd (INV_lv V hw hi) ?_ l1 ?_ l2 (by rw [n1]; exact W.1.2.2)
      · rw [gon_congr (lv_3457 hw hi (by omega))]; exact hg
      · unfold mayH at hm ⊢
        rw [hlon]
        exact hm
theorem INV_eol {h s : sV} {k : Nat} (V : INV h s) : INV h (eolF k s) := by
  unfold eolF
  cases (!decide (bx s k 5 = nM1) && !decide (s 0 - bx s k 6 < Int32.ofNat 2)) with
  | true => exact INV_5n V
  | false => exact V
theorem INV_pas {Y : Nat} {h s : sV} (hY : Y ≤ 1000000) (V : INV h s) (W : WS Y h s) (H : WH h) : INV h (pasS s h) := by
  have V1 : INV h (wr s 0 (s 0 + Int32.ofNat 1)) := INV_same V (wr_n (by omega)) (fun k f _ _ => bx_wr (by omega))
  have W1 := WS_year hY W
  have V2 : ∀ k, k ≤ nbS s → INV h (upF eolF k (wr s 0 (s 0 + Int32.ofNat 1))) ∧ WS (Y + 1) h (upF eolF k (wr s 0 (s 0 + Int32.ofNat 1))) := fun k hk => upF_inv (P := fun t => INV h t ∧ WS (Y + 1) h t) ⟨V1, W1⟩ (fun k t _ q => ⟨INV_eol q.1, WS_eol q.2⟩) k hk
  obtain ⟨V3, W3⟩ := V2 (nbS s) (Nat.le_refl _)
  have n1 : nbS (upF eolF (nbS s) (wr s 0 (s 0 + Int32.ofNat 1))) = nbS s := by unfold nbS; rw [eols_lo (by omega), wr_n (by omega)]
  have key := upF_inv (f := srvF h) (P := fun t => (INV h t ∧ WS (Y + 1) h t) ∧ nbS t = nbS s) (n := nbS s) (s := upF eolF (nbS s) (wr s 0 (s 0 + Int32.ofNat 1))) ⟨⟨V3, W3⟩, n1⟩ (fun k t hk q => by
    have hk' : k < nbS t := by rw [q.2]; exact hk
    refine ⟨⟨INV_srv q.1.1 q.1.2 H hk', WS_srv q.1.2 hk'⟩, ?_⟩
    show nbS (srvS t h k) = _
    unfold nbS
    rw [srv_lo (by omega)]
    exact q.2) (nbS s) (Nat.le_refl _)
  have n2 : nbS (wr s 0 (s 0 + Int32.ofNat 1)) = nbS s := by unfold nbS; rw [wr_n (by omega)]
  show INV h (upF (srvF h) (nbS s) (upF eolF (nbS s) (wr s 0 (s 0 + Int32.ofNat 1))))
  exact key.1.1
theorem INV_yrs {Y : Nat} {h s : sV} (V : INV h s) (W : WS Y h s) (H : WH h) : ∀ {n : Nat}, Y + n ≤ 1000000 → INV h (yrsS h n s)
  | 0, _ => V
  | n + 1, hY => INV_pas (Y := Y + n) (by omega) (INV_yrs V W H (by omega)) (WS_yrs W (by omega)) H
theorem INV_gbk {Y : Nat} {h s : sV} {k : Nat} (V : INV h s) (W : WS Y h s) (H : WH h) (hk : k < nbS s) : INV h (gbkS s h k) := by
  have n1 : nbS (lay s k 5 nM1) = nbS s := by unfold nbS; rw [lay_lo (by omega)]
  exact INV_srv (INV_5n V) (WS_5 W (Or.inl rfl)) H (by rw [n1]; exact hk)
theorem INV_que {h s : sV} {k : Nat} {r : Int32} (V : INV h s) (hw : nN (bx s k 8) < 3) : INV h (queS s r k) := by
  refine INV_same V ?_ (fun k' f _ hf => ?_)
  · unfold queS; rw [lay_lo (by omega), lay_lo (by omega)]
  · unfold queS; rw [lay_n (by omega) (by omega) (by omega), lay_n (by omega) (by omega) (by omega)]
theorem INV_req {Y : Nat} {h s : sV} {k r : Nat} (V : INV h s) (W : WS Y h s) (H : WH h) (hr : r < nN (h 3)) (ho : obsS s h (Int32.ofNat r) k = Int32.ofNat 0) (hw : nN (bx s k 8) < 3) : INV h (reqS s h (Int32.ofNat r) k) := by
  have hg : gonB s k = false := by
    unfold obsS at ho
    cases hg : gonB s k with
    | false => rfl
    | true => rw [hg, if_pos rfl] at ho; exact absurd ho (by decide)
  unfold reqS
  cases hb : reqB s h (Int32.ofNat r) k with
  | false => exact INV_que V hw
  | true =>
    simp only [reqB, Bool.and_eq_true] at hb
    obtain ⟨l1, l2, -⟩ := WHlim H hr
    exact INV_lnd V hg l1 hb.2 l2 W.1.2.2
theorem INV_new {h s : sV} {c y q : Int32} (V : INV h s) (hn : nbS s < 24) (hb : boxOnS s q = nM1) : INV h (newS s c y q) := by
  obtain ⟨v1, v2, v3⟩ := V
  have hno := (boxOn_no (by omega)).mp hb
  have n1 : nbS (newS s c y q) = nbS s + 1 := by unfold nbS; rw [new_1, nN_o (by unfold nbS at hn ⊢; omega)]; rfl
  have eo : ∀ k f, f < 12 → k ≠ nbS s → bx (newS s c y q) k f = bx s k f := fun k f hf hk => by rw [new_bx hf, if_neg hk]
  have g : ∀ k, k ≠ nbS s → gonB (newS s c y q) k = gonB s k := fun k hk => gon_congr (eo k 7 (by omega) hk)
  have gn : gonB (newS s c y q) (nbS s) = false := by
    unfold gonB
    rw [new_bx (by omega), if_pos rfl, if_neg (by omega), if_neg (by omega), if_neg (by omega), if_neg (by omega)]
    decide
  refine ⟨fun i j hij hj gi gj => ?_, fun k hk gk => ?_, fun r hr => ?_⟩
  · rw [n1] at hj
    rw [g i (by omega)] at gi
    rw [eo i 4 (by omega) (by omega)]
    by_cases hj2 : j = nbS s
    · rw [hj2, new_bx (by omega), if_pos rfl, if_neg (by omega), if_pos rfl]
      exact hno i (by omega)
    · rw [g j hj2] at gj
      rw [eo j 4 (by omega) hj2]
      exact v1 i j hij (by omega) gi gj
  · rw [n1] at hk
    by_cases hk2 : k = nbS s
    · rw [hk2, gn] at gk; cases gk
    · rw [g k hk2] at gk
      rw [eo k 5 (by omega) hk2, eo k 3 (by omega) hk2]
      exact v2 k (by omega) gk
  · have hr31 := Nat.lt_trans hr (nN_lt31 _)
    have : lonN (newS s c y q) (Int32.ofNat r) = lonN s (Int32.ofNat r) := by
      unfold lonN
      rw [n1]
      rw [cnt_f (by
        rw [new_bx (by omega), if_pos rfl, if_pos rfl]
        exact decide_eq_false (by rw [nMEq hr31]; exact id))]
      exact cnt_congr (fun i hi => by rw [eo i 5 (by omega) (by omega)])
    rw [this]
    exact v3 r hr
theorem INV_end {h s : sV} {k : Nat} (V : INV h s) (h5 : bx s k 5 = nM1) : INV h (endS s k) := by
  obtain ⟨v1, v2, v3⟩ := V
  have n1 : nbS (endS s k) = nbS s := by unfold nbS; rw [end_lo (by omega)]
  have e5 : ∀ k', bx (endS s k) k' 5 = bx s k' 5 := fun k' => end_n (by omega) (Or.inr (by omega))
  have eo : ∀ k' f, f < 12 → k' ≠ k → bx (endS s k) k' f = bx s k' f := fun k' f hf hk => end_n hf (Or.inl hk)
  have g : ∀ k', k' ≠ k → gonB (endS s k) k' = gonB s k' := fun k' hk => gon_congr (eo k' 7 (by omega) hk)
  have gk : gonB (endS s k) k = true := by
    unfold gonB
    rw [end_bx (by omega), if_neg (by omega), if_neg (by omega), if_neg (by omega), if_pos ⟨rfl, rfl⟩]
    decide
  refine ⟨fun i j hij hj gi gj => ?_, fun k' hk gk' => ?_, fun r hr => ?_⟩
  · rw [n1] at hj
    have hi : i ≠ k := fun q => by rw [q, gk] at gi; cases gi
    have hj2 : j ≠ k := fun q => by rw [q, gk] at gj; cases gj
    rw [g i hi] at gi
    rw [g j hj2] at gj
    rw [eo i 4 (by omega) hi, eo j 4 (by omega) hj2]
    exact v1 i j hij hj gi gj
  · rw [n1] at hk
    by_cases q : k' = k
    · subst q
      refine ⟨by rw [e5]; exact h5, ?_⟩
      rw [end_bx (by omega), if_neg (by omega), if_pos ⟨rfl, rfl⟩]
    · rw [g k' q] at gk'
      rw [eo k' 5 (by omega) q, eo k' 3 (by omega) q]
      exact v2 k' hk gk'
  · exact Nat.le_trans (lon_le n1 (fun k' _ q => by rw [← e5]; exact q)) (v3 r hr)
theorem hin_0 {s h : sV} {k : Nat} (hh : hinS s h k = Int32.ofNat 0) : bx s k 5 = nM1 := by
  unfold hinS at hh
  split at hh
  · exact absurd hh (by decide)
  split at hh
  · exact absurd hh (by decide)
  split at hh
  · exact absurd hh (by decide)
  split at hh
  · exact absurd hh (by decide)
  split at hh
  · assumption
  · exact absurd hh (by decide)
theorem INV_apr {h s : sV} (V : INV h s) : INV h (aprS s h) := by
  have key := upF_inv (f := aprF h) (P := fun p => INV h p.2) (n := nlS s) (s := (0, s)) V (fun k p _ q => by
    show INV h (aprF h k p).2
    unfold aprF
    split
    · rename_i hh
      exact INV_end q (hin_0 hh)
    · exact q) (nlS s) (Nat.le_refl _)
  exact INV_same (s := (aprP s h).2) key (wr_n (by omega)) (fun k f _ _ => bx_wr (by omega))
theorem INV_lists {Y : Nat} {h s : sV} (V : INV h s) (W : WS Y h s) : INV h (listsS s h) := by
  obtain ⟨-, h0, h1, hb⟩ := lists_en W
  exact INV_same V h1 (fun k f _ _ => hb k f)
theorem stk_u {x : Int32} : ∀ {n : Nat} {p : Nat × sV}, p.1 ≤ 24 → n ≤ 24 - p.1 → (upF (stkF x) n p).1 ≤ p.1 + n ∧ (∀ j, j < 3 → (upF (stkF x) n p).2 j = p.2 j) ∧ ∀ j, 27 ≤ j → (upF (stkF x) n p).2 j = p.2 j
  | 0, p, _, _ => ⟨Nat.le_refl _, fun _ _ => rfl, fun _ _ => rfl⟩
  | n + 1, p, h1, h2 => by
    obtain ⟨i1, i2, i3⟩ := @stk_u x n p h1 (by omega)
    rw [show upF (stkF x) (n + 1) p = stkF x n (upF (stkF x) n p) from rfl]
    generalize upF (stkF x) n p = u at i1 i2 i3 ⊢
    unfold stkF
    split
    · exact ⟨by omega, i2, i3⟩
    · refine ⟨by show _ + 1 ≤ _; omega, fun j hj => ?_, fun j hj => ?_⟩
      · show wr _ _ _ j = _
        rw [wr_n (by omega)]; exact i2 j hj
      · show wr _ _ _ j = _
        rw [wr_n (by omega)]; exact i3 j hj
theorem stk_1 {s : sV} {k : Nat} {y : Int32} (hl : nlS s ≤ 24) : stkS s k y 1 = s 1 ∧ stkS s k y 0 = s 0 ∧ ∀ k' f, f < 12 → f ≠ 2 → bx (stkS s k y) k' f = bx s k' f := by
  obtain ⟨i1, i2, i3⟩ := @stk_u (Int32.ofNat k) (nlS s) (0, s) (Nat.zero_le _) (by omega)
  refine ⟨?_, ?_, fun k' f hf h2 => ?_⟩
  · unfold stkS; rw [lay_lo (by omega), wr_n (by omega)]; exact i2 1 (by omega)
  · unfold stkS; rw [lay_lo (by omega), wr_n (by omega)]; exact i2 0 (by omega)
  · unfold stkS; rw [lay_n (by omega) hf h2, bx_wr (by omega)]
    exact i3 _ (by omega)
theorem INV_stk {h s : sV} {k : Nat} {y : Int32} (V : INV h s) (hl : nlS s ≤ 24) : INV h (stkS s k y) := by
  obtain ⟨a, -, b⟩ := stk_1 (k := k) (y := y) hl
  exact INV_same V a (fun k' f _ hf => b k' f (by omega) (by omega))
/-! ===== free places; nothing is inconsistent ===== -/
theorem cnt_ins {p p' : Nat → Bool} {b : Nat} : ∀ {n : Nat}, b < n → p b = false → p' b = true → (∀ i, i < n → i ≠ b → p' i = p i) → cnt p' n = cnt p n + 1
  | 0, h, _, _, _ => by omega
  | n + 1, h, h1, h2, h3 => by
    by_cases q : n = b
    · subst q
      rw [cnt_t h2, cnt_f h1, cnt_congr (fun i hi => h3 i (by omega) (by omega))]
    · have ih := @cnt_ins p p' b n (by omega) h1 h2 (fun i hi => h3 i (by omega))
      have e := h3 n (by omega) q
      cases hp : p n with
      | true => rw [hp] at e; rw [cnt_t e, cnt_t hp, ih]
      | false => rw [hp] at e; rw [cnt_f e, cnt_f hp, ih]
def occB (s : sV) (n q : Nat) : Bool := anyB n fun k => !gonB s k && decide (bx s k 4 = Int32.ofNat q)
theorem occ_kep {Y : Nat} {h s : sV} (V : INV h s) (W : WS Y h s) (hmk : mkN h ≤ 48) : ∀ n, n ≤ nbS s → cnt (occB s n) (mkN h) = cnt (fun k => !gonB s k) n
  | 0, _ => by
    have : ∀ q, occB s 0 q = false := fun q => anyB_no.mpr (fun i hi => by omega)
    rw [cnt_0]
    have key : ∀ N, cnt (occB s 0) N = 0 := fun N => by
      induction N with
      | zero => rfl
      | succ N ih => rw [cnt_f (this N), ih]
    exact key _
  | n + 1, hn => by
    have ih := occ_kep V W hmk n (by omega)
    have es : ∀ q, occB s (n + 1) q = (occB s n q || (!gonB s n && decide (bx s n 4 = Int32.ofNat q))) := fun q => anyB_s
    cases hg : gonB s n with
    | true =>
      rw [cnt_f (by rw [hg]; rfl), ← ih]
      exact cnt_congr (fun q _ => by rw [es, hg]; simp)
    | false =>
      rw [cnt_t (by rw [hg]; rfl), ← ih]
      have wb := W.2.2.2.1 n (by omega)
      rcases wb.2.2.2.2.1 with ⟨-, w7⟩ | ⟨w4, w5, -⟩
      · unfold gonB at hg
        rw [w7] at hg
        exact absurd hg (by decide)
      · obtain ⟨q0, q1, q2, -, q4⟩ := w4.ex
        rw [q2] at w5
        refine cnt_ins (b := q0) w5 ?_ ?_ (fun q hq hne => ?_)
        · refine anyB_no.mpr (fun i hi => ?_)
          cases hgi : gonB s i with
          | true => rfl
          | false =>
            simp only [Bool.not_false, Bool.true_and]
            refine decide_eq_false (fun z => ?_)
            exact V.1 i n hi (by omega) hgi hg (z.trans q1.symm)
        · rw [es, hg, q1]; simp
        · rw [es, hg, q1]
          have : ¬ Int32.ofNat q0 = Int32.ofNat q := by
            rw [nEq (by omega) (by omega)]
            exact fun z => hne z.symm
          simp [this]
theorem fr_occ {Y : Nat} {h s : sV} (W : WS Y h s) {q : Nat} (hq : q < 48) : frB s q = !occB s (nbS s) q := by
  have hn : nbS s ≤ 24 := W.1.2.2
  unfold frB occB
  cases ho : anyB (nbS s) fun k => !gonB s k && decide (bx s k 4 = Int32.ofNat q) with
  | true =>
    obtain ⟨i, hi, hp⟩ := anyB_iff.mp ho
    simp only [Bool.and_eq_true, decide_eq_true_eq] at hp
    refine decide_eq_false (fun z => ?_)
    exact (boxOn_no hn).mp z i hi hp.2
  | false =>
    refine decide_eq_true ((boxOn_no hn).mpr (fun k hk z => ?_))
    have h1 := anyB_no.mp ho k hk
    have wb := W.2.2.2.1 k hk
    rcases wb.2.2.2.2.1 with ⟨w4, -⟩ | ⟨-, -, w7⟩
    · rw [w4, nMEq (by omega)] at z
      exact z
    · have hg : gonB s k = false := by unfold gonB; rw [w7]; decide
      simp [hg, z] at h1
theorem fre_kep {Y : Nat} {h s : sV} (V : INV h s) (W : WS Y h s) (hmk : mkN h ≤ 48) : freS s h + kepN s = mkN h := by
  have h1 := occ_kep V W hmk (nbS s) (Nat.le_refl _)
  unfold freS kepN
  rw [← h1, Nat.add_comm]
  exact cnt_add (fun i hi => fr_occ W (by omega))
theorem kep_gon2 (s : sV) : kepN s + cnt (gonB s) (nbS s) = nbS s := by
  unfold kepN
  rw [Nat.add_comm]
  exact cnt_add (fun i _ => rfl)
theorem room_n {Y : Nat} {h s : sV} (V : INV h s) (W : WS Y h s) (hmk : mkN h ≤ 48) : Int32.ofNat (mkN h) - Int32.ofNat (nbS s) + Int32.ofNat (cnt (gonB s) (nbS s)) = Int32.ofNat (freS s h) := by
  have h1 := fre_kep V W hmk
  have h2 := kep_gon2 s
  have e1 : Int32.ofNat (mkN h) = Int32.ofNat (freS s h) + Int32.ofNat (kepN s) := by rw [nAdd, h1]
  have e2 : Int32.ofNat (nbS s) = Int32.ofNat (kepN s) + Int32.ofNat (cnt (gonB s) (nbS s)) := by rw [nAdd, h2]
  rw [e1, e2]
  generalize Int32.ofNat (freS s h) = a
  generalize Int32.ofNat (kepN s) = b
  generalize Int32.ofNat (cnt (gonB s) (nbS s)) = c
  rw [Int32.sub_eq_add_neg, Int32.neg_add, Int32.add_assoc, Int32.add_assoc, Int32.sub_eq_add_neg, ← Int32.add_assoc b, ← Int32.add_assoc b (-b) (-c), Int32.add_right_neg, Int32.zero_add, Int32.add_left_neg, Int32.add_zero]
theorem fa_0 {Y : Nat} {h s : sV} (V : INV h s) (W : WS Y h s) (H : WH h) (hmk : mkN h ≤ 48) : faR s h (nN (h 3)) = Int32.ofNat 0 := by
  have hn : nbS s ≤ 24 := W.1.2.2
  have h0 : faI s h = Int32.ofNat 0 := by
    unfold faI
    rw [nAdd, fre_kep V W hmk, nSub (Nat.le_refl _), Nat.sub_self]
    decide
  have f1 : ∀ k, k < nbS s → f1B s k = false := by
    intro k hk
    unfold f1B
    cases hg : gonB s k with
    | true => rfl
    | false =>
      simp only [Bool.not_false, Bool.true_and]
      have : boxOnS s (bx s k 4) = Int32.ofNat k := by
        unfold boxOnS fI
        have hfn : fnd (nbS s) (fun j => decide (bx s j 4 = bx s k 4)) = some k := by
          refine fnd_is hk (decide_eq_true rfl) (fun j hj => decide_eq_false (fun z => ?_))
          have wj := W.2.2.2.1 j (by omega)
          have wk := W.2.2.2.1 k hk
          have gj : gonB s j = false := by
            rcases wk.2.2.2.2.1 with ⟨-, w7⟩ | ⟨w4, -, -⟩
            · unfold gonB at hg; rw [w7] at hg; exact absurd hg (by decide)
            · rcases wj.2.2.2.2.1 with ⟨w4', -⟩ | ⟨-, -, w7'⟩
              · obtain ⟨q0, q1, -, -, q4⟩ := w4.ex
                rw [w4', q1, nMEq (by omega)] at z
                exact z.elim
              · unfold gonB; rw [w7']; decide
          exact V.1 j k hj hk gj hg z
        rw [hfn]
        rfl
      rw [this]
      simp
  have f2 : ∀ k, k < nbS s → f2B s k = false := by
    intro k hk
    unfold f2B
    cases hg : gonB s k with
    | false => rfl
    | true =>
      obtain ⟨a, b⟩ := V.2.1 k hk hg
      obtain ⟨y, y1, y2, y3, y4⟩ := W.2.2.1.ex
      have y5 : y < 2147483648 := by rw [← y2]; exact nN_lt31 _
      unfold selB
      have hlt : Int32.ofNat 0 < Int32.ofNat y := by rw [nLt (by omega) y5]; omega
      rw [a, b, y1, decide_eq_true hlt]
      simp
  have fB : ∀ k, k ≤ nbS s → faB s h k = Int32.ofNat 0 := by
    intro k
    induction k with
    | zero => intro _; exact h0
    | succ k ih =>
      intro hk
      show faB s h k + bI (f1B s k) + bI (f2B s k) = _
      rw [ih (by omega), f1 k (by omega), f2 k (by omega)]
      decide
  have f3 : ∀ r, r < nN (h 3) → f3B s h r = false := by
    intro r hr
    obtain ⟨l1, l2, l3⟩ := WHlim H hr
    have h1 := V.2.2 r hr
    unfold f3B
    have h4 := cnt_le (fun k => decide (bx s k 5 = Int32.ofNat r)) (nbS s)
    have h5 : lonN s (Int32.ofNat r) ≤ nbS s := h4
    refine decide_eq_false ?_
    rw [l2, nLt (by omega) (by omega)]
    omega
  have fR : ∀ r, r ≤ nN (h 3) → faR s h r = Int32.ofNat 0 := by
    intro r
    induction r with
    | zero => intro _; exact fB _ (Nat.le_refl _)
    | succ r ih =>
      intro hr
      show faR s h r + bI (f3B s h r) = _
      rw [ih (by omega), f3 r (by omega)]
      decide
  exact fR _ (Nat.le_refl _)
end

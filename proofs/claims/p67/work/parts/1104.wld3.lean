/-! ===== the World: lists, approvals, new boxes (printed by wip/p67/wld3.py) ===== -/
noncomputable section
/-- an array of 24 flags at u -/
def aU (m : dMem) (u : Nat) (U : sV) : dMem := (fun q => if q = u then some (.inl (4, 24, .inl U)) else m.1 q, m.2)
section
variable {e : dEnv} {d nb Y u : Nat} {ad : Nat → Nat} {X : wX} {U h s : sV} {m : dMem}
theorem U_a (hu : ∀ i, i < 7 + 2 * nb → ad i ≠ u) {j : Nat} (hj : j < 24) : aI (wM nb ad X (aU m u U)) 4 u (Int32.ofNat j) = some (U j) := by
  unfold aI
  rw [ovA_out hu]
  simp only [aU, if_true]
  rw [if_pos ⟨trivial, by rw [nToI (by omega)]; omega, by rw [nToI (by omega)]; omega⟩, nToN (by omega)]
theorem U_s (hu : ∀ i, i < 7 + 2 * nb → ad i ≠ u) (he : e.1 ≤ u) {j : Nat} (hj : j < 24) : sI e (wM nb ad X (aU m u U)) 4 u (Int32.ofNat j) (Int32.ofNat 1) = some (wM nb ad X (aU m u (wr U j (Int32.ofNat 1)))) := by
  unfold sI
  rw [ovA_out hu]
  simp only [aU, if_true]
  rw [if_pos ⟨trivial, he, by rw [nToI (by omega)]; omega, by rw [nToI (by omega)]; omega⟩, nToN (by omega)]
  refine congrArg some (Prod.ext (funext fun q => ?_) rfl)
  show (if q = u then some _ else (ovA (TW nb) (7 + 2 * nb) ad X (aU m u U)).1 q) = (ovA (TW nb) (7 + 2 * nb) ad X (aU m u (wr U j (Int32.ofNat 1)))).1 q
  by_cases hq : q = u
  · rw [if_pos hq, hq, ovA_out hu]
    show _ = (if u = u then _ else _)
    rw [if_pos rfl]
    rfl
  · rw [if_neg hq]
    cases hf : fAd ad (7 + 2 * nb) q with
    | some i =>
      show (match fAd ad (7 + 2 * nb) q with | some i => some (aC (TW nb) ad X i) | none => _) = (match fAd ad (7 + 2 * nb) q with | some i => some (aC (TW nb) ad X i) | none => _)
      rw [hf]
    | none =>
      rw [ovA_out (fAd_none hf), ovA_out (fAd_none hf)]
      show (if q = u then _ else m.1 q) = (if q = u then _ else m.1 q)
      rw [if_neg hq, if_neg hq]
theorem U_new (hu : ∀ i, i < 7 + 2 * nb → ad i ≠ m.2.1) : nA (wM nb ad X m) 4 24 = wM nb ad X (aU (m.1, m.2.1 + 1, m.2.2 + 24) m.2.1 (fun _ => Int32.ofNat 0)) := by
  refine Prod.ext (funext fun q => ?_) rfl
  show (if q = m.2.1 then some (.inl (4, 24, dDf 4)) else (ovA (TW nb) (7 + 2 * nb) ad X m).1 q) = _
  by_cases hq : q = m.2.1
  · rw [if_pos hq, hq, ovA_out hu]
    show _ = (if m.2.1 = m.2.1 then _ else _)
    rw [if_pos rfl]
    rfl
  · rw [if_neg hq]
    cases hf : fAd ad (7 + 2 * nb) q with
    | some i =>
      show (match fAd ad (7 + 2 * nb) q with | some i => some (aC (TW nb) ad X i) | none => _) = (match fAd ad (7 + 2 * nb) q with | some i => some (aC (TW nb) ad X i) | none => _)
      rw [hf]
    | none =>
      rw [ovA_out (fAd_none hf), ovA_out (fAd_none hf)]
      show _ = (if q = m.2.1 then _ else m.1 q)
      rw [if_neg hq]
/-- an obstacle to destroying: a number up to five -/
theorem hin_v (s h : sV) (k : Nat) : ∃ v, hinS s h k = Int32.ofNat v ∧ v ≤ 5 := by
  unfold hinS
  split
  · exact ⟨1, rfl, by omega⟩
  split
  · exact ⟨2, rfl, by omega⟩
  split
  · exact ⟨3, rfl, by omega⟩
  split
  · exact ⟨4, rfl, by omega⟩
  split
  · exact ⟨0, rfl, by omega⟩
  · exact ⟨5, rfl, by omega⟩
theorem hin_m (s h : sV) (k : Nat) : (hinS s h k - hinS s h k / Int32.ofNat 5 * Int32.ofNat 5 = Int32.ofNat 0) = (mayB s h k = true) := by
  obtain ⟨v, v1, v2⟩ := hin_v s h k
  unfold mayB
  rw [v1, nMod (by omega) (by omega), nEq (by omega) (by omega)]
  simp only [Bool.or_eq_true, decide_eq_true_eq]
  rw [nEq (by omega) (by omega), nEq (by omega) (by omega)]
  exact propext ⟨fun q => by omega, fun q => by omega⟩
theorem hin_p (s h : sV) (k : Nat) : (Int32.ofNat 0 < hinS s h k) = (¬ hinS s h k = Int32.ofNat 0) := by
  obtain ⟨v, v1, v2⟩ := hin_v s h k
  rw [v1, nLt (by omega) (by omega), nEq (by omega) (by omega)]
  exact propext ⟨fun q => by omega, fun q => by omega⟩
/-- the head's numbers and the list change -/
theorem OKW_head {X' : wX} {s' : sV} (Z : OKW nb Y X h s) (W' : WS Y h s') (h0 : s' 0 = s 0) (h1 : s' 1 = s 1) (hb : ∀ k f, k < nbS s → f < 12 → bx s' k f = bx s k f) (hX : ∀ i, i ≠ 0 → i ≠ 6 → X' i = X i) (hX0 : ∀ f, f ≠ 13 → X' 0 f = X 0 f) (h2 : X' 0 13 = s' 2) (hl : ∀ i, i < nlS s' → X' 6 i = s' (3 + i)) : OKW nb Y X' h s' := by
  obtain ⟨hn, ⟨a, b, c, dd, f, g⟩, W, H⟩ := Z
  have n1 : nbS s' = nbS s := by unfold nbS; rw [h1]
  refine ⟨n1.trans hn, ⟨by rw [hX0 11 (by omega), h0]; exact a, by rw [hX0 12 (by omega), h1]; exact b, h2, VH_congr dd (fun f hf => hX0 f (by omega)) (fun i h1 h2 => hX i (by omega) (by omega)), fun k hk => ?_, hl⟩, W', H⟩
  rw [n1] at hk
  exact VB_congr (f k hk) (W.2.2.2.1 k hk).2.2.2.2.2.2.1.2.2 (hX _ (by omega) (by omega)) (hX _ (by omega) (by omega)) (fun f hf => hb k f hk hf)
theorem OKW_nl0 (Z : OKW nb Y X h s) : OKW nb Y (uX X 0 (wr (X 0) 13 (Int32.ofNat 0))) h (wr s 2 (Int32.ofNat 0)) := by
  refine OKW_head Z (WS_nl0 Z.2.2.1) (wr_n (by omega)) (wr_n (by omega)) (fun k f _ _ => bx_wr (by omega)) (fun i h1 _ => uX_n h1) (fun f hf => by rw [uX_s, wr_n hf]) (by rw [uX_s, wr_s, wr_s]) (fun i hi => ?_)
  unfold nlS at hi
  rw [wr_s, nN_o (by omega)] at hi
  omega
theorem OKW_add (Z : OKW nb Y X h s) {k l : Nat} (hl0 : nlS s = l) (hl : l < 24) (hk : k < nb) (hc : canB s h k = true) : OKW nb Y (uX (uX X 6 (wr (X 6) l (Int32.ofNat k))) 0 (wr (X 0) 13 (Int32.ofNat (l + 1)))) h (addL s k) := by
  subst hl0
  refine OKW_head Z (WS_add Z.2.2.1 hl (by rw [Z.1]; exact hk) hc) add_0 add_1 (fun k f _ _ => add_b hl) (fun i h1 h2 => by rw [uX_n h1, uX_n h2]) (fun f hf => by rw [uX_s, wr_n hf]) (by rw [uX_s, wr_s, add_2]) (fun i hi => ?_)
  rw [add_nl hl] at hi
  rw [uX_n (by omega), uX_s]
  by_cases q : i = nlS s
  · rw [q, wr_s, add_l]
  · rw [wr_n q, add_o (by omega) (by omega)]
    exact Z.2.1.2.2.2.2.2 i (by omega)
theorem mu_0 {s h : sV} (hm : muS s h = 0) : ftlK s h (nbS s) = none := by
  refine ftl_none.mpr (fun k hk => ?_)
  cases hc : canB s h k with
  | false => rfl
  | true =>
    have := cnt_pos (p := canB s h) hk hc
    unfold muS at hm
    omega
theorem oI_lt {n : Nat} {r : Option Nat} (h : ∀ j, r = some j → j < n) (hn : n ≤ 1000) : (oI r < Int32.ofNat 0) = (r = none) := by
  cases r with
  | none => show (nM1 < Int32.ofNat 0) = _; rw [nMLt (by omega)]; simp
  | some j =>
    have := h j rfl
    show (Int32.ofNat j < Int32.ofNat 0) = _
    rw [nLt (by omega) (by omega)]; simp
/-- the best of the first k that are left -/
theorem w_best (hI : iAd ad (7 + 2 * nb)) (hE : oAd e nb ad) (Z : OKW nb Y X h s) (hu : ∀ i, i < 7 + 2 * nb → ad i ≠ u) (hU : ∀ k, k < nb → U k = bI (isLB s (Int32.ofNat k))) : ∀ t, 3 * nb ≤ t → ∃ t', t ≤ t' + 3 * nb ∧ runL e (dN e (d + 2)) 177 t 2 [some (.ref (ad 0)), some (.ref u), some (.int nM1), some (.int (Int32.ofNat 0))] [] (wM nb ad X (aU m u U)) = runL e (dN e (d + 2)) 177 t' 2 [some (.ref (ad 0)), some (.ref u), some (.int (oI (ftlK s h nb))), some (.int (Int32.ofNat nb))] [] (wM nb ad X (aU m u U)) := by
  obtain ⟨hX, hs1, hn0, hn⟩ := Z.nbE
  have step : ∀ k t, k < nb → ∃ t', t ≤ t' ∧ runL e (dN e (d + 2)) 177 (t + 3) 2 [some (.ref (ad 0)), some (.ref u), some (.int (oI (ftlK s h k))), some (.int (Int32.ofNat k))] [] (wM nb ad X (aU m u U)) = runL e (dN e (d + 2)) 177 t' 2 [some (.ref (ad 0)), some (.ref u), some (.int (oI (ftlK s h (k + 1)))), some (.int (Int32.ofNat (k + 1)))] [] (wM nb ad X (aU m u U)) := by
    intro k t hk
    have hUk := hU k hk
    have hbar := w_bars (e := e) (d := d) (m := aU m u U) hI Z hk
    have hdk := w_due (e := e) (d := d + 1) (m := aU m u U) hI Z hk
    have hbl := oI_lt (fun j (hj : ftlK s h k = some j) => ftlK_lt hj) (show k ≤ 1000 by omega)
    have hmm := hin_m s h k
    have hf : ftlK s h (k + 1) = bif mayB s h k && !isLB s (Int32.ofNat k) then (match ftlK s h k with
      | none => some k
      | some j => if dueS s h k < dueS s h j then some k else some j) else ftlK s h k := rfl
    cases hl : isLB s (Int32.ofNat k) with
    | true =>
      rw [hl, bI_t] at hUk
      rw [hl] at hf
      simp only [Bool.not_true, Bool.and_false, cond_false] at hf
      refine ⟨t + 1, by omega, ?_⟩
      rw [hf]
      rw [q177_2, W_g12 hI, bd_s, hX, if_pos (by rw [nLt (by omega) (by omega)]; exact hk), U_a hu (by omega), bd_s, hUk, if_neg (by decide +kernel), q177_4, nAdd]
    | false =>
      rw [hl, bI_f] at hUk
      rw [hl] at hf
      simp only [Bool.not_false, Bool.and_true] at hf
      cases hmay : mayB s h k with
      | false =>
        rw [hmay] at hf hmm
        simp only [cond_false] at hf
        refine ⟨t + 1, by omega, ?_⟩
        rw [hf]
        rw [q177_2, W_g12 hI, bd_s, hX, if_pos (by rw [nLt (by omega) (by omega)]; exact hk), U_a hu (by omega), bd_s, hUk, if_pos rfl, W_r9 hI, bd_s, W_ab hI hk (by omega), bd_s, hbar, kI_r, if_neg (by decide +kernel), if_neg (by rw [hmm]; exact Bool.false_ne_true), q177_4, nAdd]
      | true =>
        rw [hmay] at hf hmm
        simp only [cond_true] at hf
        cases hk2 : ftlK s h k with
        | none =>
          rw [hk2] at hf hbl
          refine ⟨t, by omega, ?_⟩
          rw [hf]
          show runL e (dN e (d + 2)) 177 (t + 3) 2 [some (.ref (ad 0)), some (.ref u), some (.int nM1), some (.int (Int32.ofNat k))] [] (wM nb ad X (aU m u U)) = runL e (dN e (d + 2)) 177 t 2 [some (.ref (ad 0)), some (.ref u), some (.int (Int32.ofNat k)), some (.int (Int32.ofNat (k + 1)))] [] (wM nb ad X (aU m u U))
          rw [q177_2, W_g12 hI, bd_s, hX, if_pos (by rw [nLt (by omega) (by omega)]; exact hk), U_a hu (by omega), bd_s, hUk, if_pos rfl, W_r9 hI, bd_s, W_ab hI hk (by omega), bd_s, hbar, kI_r, if_neg (by decide +kernel), if_pos (by rw [hmm]), if_pos (by rw [nMLt (by omega)]; trivial), q177_3, q177_4, nAdd]
        | some j =>
          rw [hk2] at hf hbl
          have hj := ftlK_lt hk2
          have hjn : j < nb := by omega
          have hdj := w_due (e := e) (d := d + 1) (m := aU m u U) hI Z hjn
          have hj0 : ¬ Int32.ofNat j < Int32.ofNat 0 := by rw [nLt (by omega) (by omega)]; omega
          by_cases hlt : dueS s h k < dueS s h j
          · refine ⟨t, by omega, ?_⟩
            rw [hf]
            simp only [if_pos hlt]
            show runL e (dN e (d + 2)) 177 (t + 3) 2 [some (.ref (ad 0)), some (.ref u), some (.int (Int32.ofNat j)), some (.int (Int32.ofNat k))] [] (wM nb ad X (aU m u U)) = runL e (dN e (d + 2)) 177 t 2 [some (.ref (ad 0)), some (.ref u), some (.int (Int32.ofNat k)), some (.int (Int32.ofNat (k + 1)))] [] (wM nb ad X (aU m u U))
            rw [q177_2, W_g12 hI, bd_s, hX, if_pos (by rw [nLt (by omega) (by omega)]; exact hk), U_a hu (by omega), bd_s, hUk, if_pos rfl, W_r9 hI, bd_s, W_ab hI hk (by omega), bd_s, hbar, kI_r, if_neg (by decide +kernel), if_pos (by rw [hmm]), if_neg hj0, W_r9 hI, bd_s, W_ab hI hk (by omega), bd_s, hdk, kI_r, W_r9 hI, bd_s, W_ab hI hjn (by omega), bd_s, hdj, kI_r, if_pos hlt, q177_3, q177_4, nAdd]
          · refine ⟨t + 1, by omega, ?_⟩
            rw [hf]
            simp only [if_neg hlt]
            show runL e (dN e (d + 2)) 177 (t + 3) 2 [some (.ref (ad 0)), some (.ref u), some (.int (Int32.ofNat j)), some (.int (Int32.ofNat k))] [] (wM nb ad X (aU m u U)) = runL e (dN e (d + 2)) 177 (t + 1) 2 [some (.ref (ad 0)), some (.ref u), some (.int (Int32.ofNat j)), some (.int (Int32.ofNat (k + 1)))] [] (wM nb ad X (aU m u U))
            rw [q177_2, W_g12 hI, bd_s, hX, if_pos (by rw [nLt (by omega) (by omega)]; exact hk), U_a hu (by omega), bd_s, hUk, if_pos rfl, W_r9 hI, bd_s, W_ab hI hk (by omega), bd_s, hbar, kI_r, if_neg (by decide +kernel), if_pos (by rw [hmm]), if_neg hj0, W_r9 hI, bd_s, W_ab hI hk (by omega), bd_s, hdk, kI_r, W_r9 hI, bd_s, W_ab hI hjn (by omega), bd_s, hdj, kI_r, if_neg hlt, q177_4, nAdd]
  obtain ⟨x, -, g⟩ := lp_exC (α := Unit) (c := 3) (n := nb) (P := fun _ _ => True) (G := fun t k _ => runL e (dN e (d + 2)) 177 t 2 [some (.ref (ad 0)), some (.ref u), some (.int (oI (ftlK s h k))), some (.int (Int32.ofNat k))] [] (wM nb ad X (aU m u U))) (fun k x hk _ => ⟨(), trivial, fun t => step k t hk⟩) nb 0 () (by omega) trivial
  exact g

theorem w_lisK (hI : iAd ad (7 + 2 * nb)) (hE : oAd e nb ad) (hu : ∀ i, i < 7 + 2 * nb → ad i ≠ u) (he : e.1 ≤ u) : ∀ (n : Nat) (s : sV) (X : wX) (U : sV), OKW nb Y X h s → (∀ k, k < nb → U k = bI (isLB s (Int32.ofNat k))) → nlS s + muS s h ≤ 24 → muS s h ≤ n → ∀ t, 100 * (n + 1) ≤ t → ∃ X' U', runL e (dN e (d + 2)) 177 t 1 [some (.ref (ad 0)), some (.ref u), none, none] [] (wM nb ad X (aU m u U)) = some (.inl none, wM nb ad X' (aU m u U')) ∧ OKW nb Y X' h (lisK h n s) := by
  intro n
  induction n with
  | zero =>
    intro s X U Z hU hmu hm t ht
    obtain ⟨hX, hs1, hn0, hn⟩ := Z.nbE
    have h0 := mu_0 (show muS s h = 0 by omega)
    rw [hn0] at h0
    obtain ⟨t, rfl⟩ : ∃ t', t = t' + 1 := ⟨t - 1, by omega⟩
    obtain ⟨t', h1, h2⟩ := w_best (d := d) (m := m) hI hE Z hu hU t (by omega)
    obtain ⟨t', rfl⟩ : ∃ t'', t' = t'' + 2 := ⟨t' - 2, by omega⟩
    refine ⟨X, U, ?_, Z⟩
    rw [q177_1, h2, h0]
    show runL e (dN e (d + 2)) 177 (t' + 2) 2 [some (.ref (ad 0)), some (.ref u), some (.int nM1), some (.int (Int32.ofNat nb))] [] (wM nb ad X (aU m u U)) = _
    simp -implicitDefEqProofs (disch := omega) only [↓reduceIte, q177_2, q177_5, hX, Nat.lt_irrefl, bd_s, kI_r, kV_r, kL_r, rZ_1, rZ_0, rZ_b, rI_ite, bI_ite, ite_tf, ite_ft, bI0, bI1, bf_ite, nAdd, nMul, nLt, nEq, nEqM, nMEq, nMLt, nLtM, nMLt0, if_true, if_false, Nat.reduceAdd, Nat.reduceMul, Nat.zero_add, Nat.add_zero, decide_eq_true_eq, decide_true, decide_false, Nat.reduceEqDiff, Nat.reduceLT, Nat.reduceLeDiff, eq_self, Bool.false_eq_true, Bool.true_eq_false, Bool.not_eq_false', Bool.not_eq_true', ite_not, W_g1 hI, W_g2 hI, W_g3 hI, W_g4 hI, W_g11 hI, W_g12 hI, W_g13 hI, W_r5 hI, W_r6 hI, W_r7 hI, W_r8 hI, W_r9 hI, W_r10 hI, W_a1 hI, W_a2 hI, W_a3 hI, W_a4 hI, W_a6 hI, W_ab hI, B_g0 hI, B_g1 hI, B_g3 hI, B_g4 hI, B_g5 hI, B_g6 hI, B_g7 hI, B_g8 hI, B_g9 hI, B_g10 hI, B_r2 hI, B_aq hI]
  | succ n ih =>
    intro s X U Z hU hmu hm t ht
    obtain ⟨hX, hs1, hn0, hn⟩ := Z.nbE
    obtain ⟨l, hl, hl0, hl1⟩ := Z.nl
    obtain ⟨t, rfl⟩ : ∃ t', t = t' + 1 := ⟨t - 1, by omega⟩
    obtain ⟨t', h1, h2⟩ := w_best (d := d) (m := m) hI hE Z hu hU t (by omega)
    obtain ⟨t', rfl⟩ : ∃ t'', t' = t'' + 3 := ⟨t' - 3, by omega⟩
    cases hf : ftlK s h nb with
    | none =>
      refine ⟨X, U, ?_, by unfold lisK; rw [hn0, hf]; exact Z⟩
      rw [q177_1, h2, hf]
      show runL e (dN e (d + 2)) 177 (t' + 3) 2 [some (.ref (ad 0)), some (.ref u), some (.int nM1), some (.int (Int32.ofNat nb))] [] (wM nb ad X (aU m u U)) = _
      simp -implicitDefEqProofs (disch := omega) only [↓reduceIte, q177_2, q177_5, hX, Nat.lt_irrefl, bd_s, kI_r, kV_r, kL_r, rZ_1, rZ_0, rZ_b, rI_ite, bI_ite, ite_tf, ite_ft, bI0, bI1, bf_ite, nAdd, nMul, nLt, nEq, nEqM, nMEq, nMLt, nLtM, nMLt0, if_true, if_false, Nat.reduceAdd, Nat.reduceMul, Nat.zero_add, Nat.add_zero, decide_eq_true_eq, decide_true, decide_false, Nat.reduceEqDiff, Nat.reduceLT, Nat.reduceLeDiff, eq_self, Bool.false_eq_true, Bool.true_eq_false, Bool.not_eq_false', Bool.not_eq_true', ite_not, W_g1 hI, W_g2 hI, W_g3 hI, W_g4 hI, W_g11 hI, W_g12 hI, W_g13 hI, W_r5 hI, W_r6 hI, W_r7 hI, W_r8 hI, W_r9 hI, W_r10 hI, W_a1 hI, W_a2 hI, W_a3 hI, W_a4 hI, W_a6 hI, W_ab hI, B_g0 hI, B_g1 hI, B_g3 hI, B_g4 hI, B_g5 hI, B_g6 hI, B_g7 hI, B_g8 hI, B_g9 hI, B_g10 hI, B_r2 hI, B_aq hI]
    | some k =>
      obtain ⟨hk, hc, -, -⟩ := ftl_some hf
      have hmlt : 0 < muS s h := by
        unfold muS
        exact cnt_pos (by rw [hn0]; exact hk) hc
      have hlt : nlS s < 24 := by omega
      have hl24 : l < 24 := by omega
      have Z' := OKW_add Z hl0 hl24 hk hc
      have hmu' := mu_add hlt (by rw [hn0]; exact hk) hc
      have hU' : ∀ k', k' < nb → wr U k (Int32.ofNat 1) k' = bI (isLB (addL s k) (Int32.ofNat k')) := by
        intro k' hk'
        rw [add_is hlt]
        by_cases q : k' = k
        · rw [q, wr_s, decide_eq_true rfl, Bool.or_true]; rfl
        · rw [wr_n q, hU k' hk', decide_eq_false (by rw [nEq (by omega) (by omega)]; exact fun z => q z.symm), Bool.or_false]
      obtain ⟨X', U', g1, g2⟩ := ih (addL s k) _ _ Z' hU' (by rw [add_nl hlt]; omega) (by omega) t' (by omega)
      refine ⟨X', U', ?_, by unfold lisK; rw [hn0, hf]; exact g2⟩
      rw [q177_1, h2, hf, ← g1]
      show runL e (dN e (d + 2)) 177 (t' + 3) 2 [some (.ref (ad 0)), some (.ref u), some (.int (Int32.ofNat k)), some (.int (Int32.ofNat nb))] [] (wM nb ad X (aU m u U)) = _
      have hk0 : ¬ Int32.ofNat k < Int32.ofNat 0 := by rw [nLt (by omega) (by omega)]; omega
      simp -implicitDefEqProofs (disch := omega) only [↓reduceIte, q177_2, q177_5, q177_6, hX, Nat.lt_irrefl, hk0, U_s hu he, hl, uX_n, bd_s, kI_r, kV_r, kL_r, rZ_1, rZ_0, rZ_b, rI_ite, bI_ite, ite_tf, ite_ft, bI0, bI1, bf_ite, nAdd, nMul, nLt, nEq, nEqM, nMEq, nMLt, nLtM, nMLt0, if_true, if_false, Nat.reduceAdd, Nat.reduceMul, Nat.zero_add, Nat.add_zero, decide_eq_true_eq, decide_true, decide_false, Nat.reduceEqDiff, Nat.reduceLT, Nat.reduceLeDiff, eq_self, Bool.false_eq_true, Bool.true_eq_false, Bool.not_eq_false', Bool.not_eq_true', ite_not, W_g1 hI, W_g2 hI, W_g3 hI, W_g4 hI, W_g11 hI, W_g12 hI, W_g13 hI, W_r5 hI, W_r6 hI, W_r7 hI, W_r8 hI, W_r9 hI, W_r10 hI, W_a1 hI, W_a2 hI, W_a3 hI, W_a4 hI, W_a6 hI, W_ab hI, B_g0 hI, B_g1 hI, B_g3 hI, B_g4 hI, B_g5 hI, B_g6 hI, B_g7 hI, B_g8 hI, B_g9 hI, B_g10 hI, B_r2 hI, B_aq hI, W_p11 hI hE, W_p12 hI hE, W_p13 hI hE, W_s6 hI hE, B_p3 hI hE, B_p4 hI hE, B_p5 hI hE, B_p6 hI hE, B_p7 hI hE, B_p8 hI hE, B_p9 hI hE, B_z10 hI hE, B_sq hI hE, uX_s, uX_uX]
theorem w_lists (hI : iAd ad (7 + 2 * nb)) (hE : oAd e nb ad) (Z : OKW nb Y X h s) (hb : ∀ i, i < 7 + 2 * nb → ad i < m.2.1) : ∃ X' U', dN e (d + 3) 177 [.ref (ad 0)] (wM nb ad X m) = some (.inl none, wM nb ad X' (aU (m.1, m.2.1 + 1, m.2.2 + 24) m.2.1 U')) ∧ OKW nb Y X' h (listsS s h) := by
  have hu : ∀ i, i < 7 + 2 * nb → ad i ≠ m.2.1 := fun i hi => by have := hb i hi; omega
  have he : e.1 ≤ m.2.1 := by have h1 := hE 0 (by omega); have h2 := hb 0 (by omega); omega
  have Z1 := OKW_nl0 Z
  have hU0 : ∀ k, k < nb → (fun _ : Nat => Int32.ofNat 0) k = bI (isLB (wr s 2 (Int32.ofNat 0)) (Int32.ofNat k)) := by
    intro k _
    have : isLB (wr s 2 (Int32.ofNat 0)) (Int32.ofNat k) = false := by
      unfold isLB
      refine anyB_no.mpr (fun i hi => ?_)
      unfold nlS at hi
      rw [wr_s, nN_o (by omega)] at hi
      omega
    rw [this]; rfl
  obtain ⟨u, hu1, hu2⟩ := dFuE 1 (by omega)
  have hmu := mu_nl0 Z.2.2.1
  obtain ⟨X', U', g1, g2⟩ := w_lisK (d := d) (m := (m.1, m.2.1 + 1, m.2.2 + 24)) hI hE hu he 24 _ _ _ Z1 hU0 hmu (by omega) u (by omega)
  refine ⟨X', U', ?_, g2⟩
  rw [dN_at (j := 177) (as := [.ref (ad 0)]) (ls := [some (.ref (ad 0)), none, none, none]) (W_c0 hI) rfl rfl rfl, hu1, q177_0, W_p13 hI hE, bd_s, if_pos i24, t24, ← g1]
  show runL e (dN e (d + 2)) 177 u 1 [some (.ref (ad 0)), some (.ref m.2.1), none, none] [] (nA (wM nb ad (uX X 0 (wr (X 0) 13 (Int32.ofNat 0))) m) 4 24) = _
  rw [U_new hu]
theorem OKW_end (Z : OKW nb Y X h s) {k : Nat} (hk : k < nb) : OKW nb Y (uX X (7 + 2 * k) (wr (wr (wr (X (7 + 2 * k)) 10 (Int32.ofNat 1)) 4 (Int32.ofNat 0)) 9 (Int32.ofNat 0))) h (endS s k) := by
  refine OKW_box (k := k) Z (WS_end Z.2.2.1) (fun j hj => end_lo hj) (fun k' f h1 h2 => end_n h2 (Or.inl h1)) (fun j h1 h2 => uX_n h1) (fun hk => ?_)
  obtain ⟨⟨v0, v1, v2, v3, v5, v6, v8, v7, vm, vq⟩, wb, hk24⟩ := Z.box hk
  have eo : ∀ f, f < 12 → f ≠ 8 → f ≠ 3 → f ≠ 4 → f ≠ 7 → bx (endS s k) k f = bx s k f := fun f h1 h2 h3 h4 h5 => end_n h1 (Or.inr ⟨h2, h3, h4, h5⟩)
  have e8 : bx (endS s k) k 8 = Int32.ofNat 0 := by rw [end_bx (by omega), if_pos ⟨rfl, rfl⟩]
  have e3 : bx (endS s k) k 3 = Int32.ofNat 0 := by rw [end_bx (by omega), if_neg (by omega), if_pos ⟨rfl, rfl⟩]
  have e7 : bx (endS s k) k 7 = Int32.ofNat 1 := by rw [end_bx (by omega), if_neg (by omega), if_neg (by omega), if_neg (by omega), if_pos ⟨rfl, rfl⟩]
  refine ⟨?_, ?_, ?_, ?_, ?_, ?_, ?_, ?_, fun z => ?_, fun i hi => ?_⟩
  · rw [uX_s, wr_n (by omega), wr_n (by omega), wr_n (by omega), eo 0 (by omega) (by omega) (by omega) (by omega) (by omega)]; exact v0
  · rw [uX_s, wr_n (by omega), wr_n (by omega), wr_n (by omega), eo 1 (by omega) (by omega) (by omega) (by omega) (by omega)]; exact v1
  · rw [uX_s, wr_n (by omega), wr_n (by omega), wr_n (by omega), eo 2 (by omega) (by omega) (by omega) (by omega) (by omega)]; exact v2
  · rw [uX_s, wr_n (by omega), wr_s, e3]
  · rw [uX_s, wr_n (by omega), wr_n (by omega), wr_n (by omega), eo 5 (by omega) (by omega) (by omega) (by omega) (by omega)]; exact v5
  · rw [uX_s, wr_n (by omega), wr_n (by omega), wr_n (by omega), eo 6 (by omega) (by omega) (by omega) (by omega) (by omega)]; exact v6
  · rw [uX_s, wr_s, e8]
  · rw [uX_s, wr_n (by omega), wr_n (by omega), wr_s, e7]
  · rw [e7] at z
    exact absurd z (by decide)
  · rw [e8, nN_o (by omega)] at hi
    omega
theorem apr_l {s h : sV} {k j : Nat} (hj : j < 27) : (upF (aprF h) k (0, s)).2 j = s j := by
  induction k with
  | zero => rfl
  | succ k ih =>
    show (aprF h k (upF (aprF h) k (0, s))).2 j = _
    unfold aprF
    split
    · show endS _ _ j = _
      rw [end_lo hj]; exact ih
    · exact ih
theorem apr_c {s h : sV} {k : Nat} : (upF (aprF h) k (0, s)).1 ≤ k := by
  induction k with
  | zero => exact Nat.le_refl _
  | succ k ih =>
    rw [show upF (aprF h) (k + 1) (0, s) = aprF h k (upF (aprF h) k (0, s)) from rfl]
    generalize upF (aprF h) k (0, s) = p at ih ⊢
    unfold aprF
    split
    · show p.1 + 1 ≤ k + 1; omega
    · omega
theorem w_approves (hI : iAd ad (7 + 2 * nb)) (hE : oAd e nb ad) (Z : OKW nb Y X h s) : ∃ X', dN e (d + 3) 179 [.ref (ad 0)] (wM nb ad X m) = rI (Int32.ofNat (aprN s h)) (wM nb ad X' m) ∧ OKW nb Y X' h (aprS s h) := by
  obtain ⟨l, hl, hl0, hl1⟩ := Z.nl
  obtain ⟨X', Z', g⟩ := lp_exC (c := 3) (n := l) (P := fun k X => OKW nb Y X h (upF (aprF h) k (0, s)).2) (G := fun t k X => runL e (dN e (d + 2)) 179 t 1 [some (.ref (ad 0)), some (.int (Int32.ofNat (upF (aprF h) k (0, s)).1)), some (.int (Int32.ofNat k)), none] [] (wM nb ad X m)) (fun k X1 hk Z1 => by
    obtain ⟨l', hl', hl0', -⟩ := Z1.nl
    have e2 : nlS (upF (aprF h) k (0, s)).2 = l := by unfold nlS; rw [apr_l (by omega)]; exact hl0
    rw [e2] at hl0'
    subst hl0'
    have hw := Z.2.2.1.2.2.2.2.1 k (by omega)
    obtain ⟨b, b1, b2, -, b4⟩ := hw.1.ex
    have hbn : b < nb := by
      have := hw.2.1
      rw [b2, Z.1] at this
      exact this
    have hX6 : X1 6 k = Int32.ofNat b := by
      have := Z1.2.1.2.2.2.2.2 k (by rw [e2]; exact hk)
      rw [this, apr_l (by omega), b1]
    have e3 : (upF (aprF h) k (0, s)).2 (3 + k) = Int32.ofNat b := by rw [apr_l (by omega), b1]
    have hbar := w_bars (e := e) (d := d) (m := m) hI Z1 hbn
    have hpos := hin_p (upF (aprF h) k (0, s)).2 h b
    have hap : upF (aprF h) (k + 1) (0, s) = aprF h k (upF (aprF h) k (0, s)) := rfl
    have hcc := @apr_c s h k
    by_cases hz : hinS (upF (aprF h) k (0, s)).2 h b = Int32.ofNat 0
    · have hap2 : upF (aprF h) (k + 1) (0, s) = ((upF (aprF h) k (0, s)).1 + 1, endS (upF (aprF h) k (0, s)).2 b) := by
        rw [hap, show aprF h k (upF (aprF h) k (0, s)) = (if hinS (upF (aprF h) k (0, s)).2 h (nN ((upF (aprF h) k (0, s)).2 (3 + k))) = Int32.ofNat 0 then ((upF (aprF h) k (0, s)).1 + 1, endS (upF (aprF h) k (0, s)).2 (nN ((upF (aprF h) k (0, s)).2 (3 + k)))) else upF (aprF h) k (0, s)) from rfl, e3, nN_o (by omega), if_pos hz]
      rw [hap2]
      refine ⟨_, OKW_end Z1 hbn, fun t => ⟨t, Nat.le_refl _, ?_⟩⟩
      simp -implicitDefEqProofs (disch := omega) only [↓reduceIte, q179_1, q179_2, q179_3, hl', hk, hX6, hbar, hpos, hz, not_true_eq_false, wr_s, uX_n, bd_s, kI_r, kV_r, kL_r, rZ_1, rZ_0, rZ_b, rI_ite, bI_ite, ite_tf, ite_ft, bI0, bI1, bf_ite, nAdd, nMul, nLt, nEq, nEqM, nMEq, nMLt, nLtM, nMLt0, if_true, if_false, Nat.reduceAdd, Nat.reduceMul, Nat.zero_add, Nat.add_zero, decide_eq_true_eq, decide_true, decide_false, Nat.reduceEqDiff, Nat.reduceLT, Nat.reduceLeDiff, eq_self, Bool.false_eq_true, Bool.true_eq_false, Bool.not_eq_false', Bool.not_eq_true', ite_not, W_g1 hI, W_g2 hI, W_g3 hI, W_g4 hI, W_g11 hI, W_g12 hI, W_g13 hI, W_r5 hI, W_r6 hI, W_r7 hI, W_r8 hI, W_r9 hI, W_r10 hI, W_a1 hI, W_a2 hI, W_a3 hI, W_a4 hI, W_a6 hI, W_ab hI, B_g0 hI, B_g1 hI, B_g3 hI, B_g4 hI, B_g5 hI, B_g6 hI, B_g7 hI, B_g8 hI, B_g9 hI, B_g10 hI, B_r2 hI, B_aq hI, W_p11 hI hE, W_p12 hI hE, W_p13 hI hE, W_s6 hI hE, B_p3 hI hE, B_p4 hI hE, B_p5 hI hE, B_p6 hI hE, B_p7 hI hE, B_p8 hI hE, B_p9 hI hE, B_z10 hI hE, B_sq hI hE, uX_s, uX_uX]
    · have hap2 : upF (aprF h) (k + 1) (0, s) = upF (aprF h) k (0, s) := by
        rw [hap, show aprF h k (upF (aprF h) k (0, s)) = (if hinS (upF (aprF h) k (0, s)).2 h (nN ((upF (aprF h) k (0, s)).2 (3 + k))) = Int32.ofNat 0 then ((upF (aprF h) k (0, s)).1 + 1, endS (upF (aprF h) k (0, s)).2 (nN ((upF (aprF h) k (0, s)).2 (3 + k)))) else upF (aprF h) k (0, s)) from rfl, e3, nN_o (by omega), if_neg hz]
      rw [hap2]
      refine ⟨X1, Z1, fun t => ⟨t + 1, by omega, ?_⟩⟩
      simp -implicitDefEqProofs (disch := omega) only [↓reduceIte, q179_1, q179_3, hl', hk, hX6, hbar, hpos, hz, not_false_eq_true, bd_s, kI_r, kV_r, kL_r, rZ_1, rZ_0, rZ_b, rI_ite, bI_ite, ite_tf, ite_ft, bI0, bI1, bf_ite, nAdd, nMul, nLt, nEq, nEqM, nMEq, nMLt, nLtM, nMLt0, if_true, if_false, Nat.reduceAdd, Nat.reduceMul, Nat.zero_add, Nat.add_zero, decide_eq_true_eq, decide_true, decide_false, Nat.reduceEqDiff, Nat.reduceLT, Nat.reduceLeDiff, eq_self, Bool.false_eq_true, Bool.true_eq_false, Bool.not_eq_false', Bool.not_eq_true', ite_not, W_g1 hI, W_g2 hI, W_g3 hI, W_g4 hI, W_g11 hI, W_g12 hI, W_g13 hI, W_r5 hI, W_r6 hI, W_r7 hI, W_r8 hI, W_r9 hI, W_r10 hI, W_a1 hI, W_a2 hI, W_a3 hI, W_a4 hI, W_a6 hI, W_ab hI, B_g0 hI, B_g1 hI, B_g3 hI, B_g4 hI, B_g5 hI, B_g6 hI, B_g7 hI, B_g8 hI, B_g9 hI, B_g10 hI, B_r2 hI, B_aq hI, W_p11 hI hE, W_p12 hI hE, W_p13 hI hE, W_s6 hI hE, B_p3 hI hE, B_p4 hI hE, B_p5 hI hE, B_p6 hI hE, B_p7 hI hE, B_p8 hI hE, B_p9 hI hE, B_z10 hI hE, B_sq hI hE, uX_s, uX_uX]) l 0 X (by omega) Z
  refine ⟨_, ?_, by
    have := OKW_nl0 Z'
    rw [← hl0] at this
    exact this⟩
  refine en179 (W_c0 hI) fun t ht => ?_
  obtain ⟨u, rfl⟩ := fu 1 ht rfl
  rw [q179_0]
  obtain ⟨t', h1, h2⟩ := g u (by omega)
  show runL e (dN e (d + 2)) 179 u 1 [some (.ref (ad 0)), some (.int (Int32.ofNat (upF (aprF h) 0 (0, s)).1)), some (.int (Int32.ofNat 0)), none] [] (wM nb ad X m) = _
  rw [h2]
  obtain ⟨t', rfl⟩ : ∃ t'', t' = t'' + 2 := ⟨t' - 2, by omega⟩
  have hX' : X' 0 13 = Int32.ofNat l := by
    obtain ⟨l', q1, q2, -⟩ := Z'.nl
    have e2 : nlS (upF (aprF h) l (0, s)).2 = l := by unfold nlS; rw [apr_l (by omega)]; exact hl0
    rw [e2] at q2
    rw [q1, q2]
  unfold aprN aprP
  rw [hl0]
  simp -implicitDefEqProofs (disch := omega) only [↓reduceIte, q179_1, q179_4, hX', Nat.lt_irrefl, bd_s, kI_r, kV_r, kL_r, rZ_1, rZ_0, rZ_b, rI_ite, bI_ite, ite_tf, ite_ft, bI0, bI1, bf_ite, nAdd, nMul, nLt, nEq, nEqM, nMEq, nMLt, nLtM, nMLt0, if_true, if_false, Nat.reduceAdd, Nat.reduceMul, Nat.zero_add, Nat.add_zero, decide_eq_true_eq, decide_true, decide_false, Nat.reduceEqDiff, Nat.reduceLT, Nat.reduceLeDiff, eq_self, Bool.false_eq_true, Bool.true_eq_false, Bool.not_eq_false', Bool.not_eq_true', ite_not, W_g1 hI, W_g2 hI, W_g3 hI, W_g4 hI, W_g11 hI, W_g12 hI, W_g13 hI, W_r5 hI, W_r6 hI, W_r7 hI, W_r8 hI, W_r9 hI, W_r10 hI, W_a1 hI, W_a2 hI, W_a3 hI, W_a4 hI, W_a6 hI, W_ab hI, B_g0 hI, B_g1 hI, B_g3 hI, B_g4 hI, B_g5 hI, B_g6 hI, B_g7 hI, B_g8 hI, B_g9 hI, B_g10 hI, B_r2 hI, B_aq hI, W_p11 hI hE, W_p12 hI hE, W_p13 hI hE, W_s6 hI hE, B_p3 hI hE, B_p4 hI hE, B_p5 hI hE, B_p6 hI hE, B_p7 hI hE, B_p8 hI hE, B_p9 hI hE, B_z10 hI hE, B_sq hI hE, uX_s, uX_uX]
end
end

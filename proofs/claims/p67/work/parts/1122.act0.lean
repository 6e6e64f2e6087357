/-! ===== what the law does in one act (printed by wip/p67/lw3.py) ===== -/
noncomputable section
/-- what is told and stays -/
def QR (h : sV) (S P K R : Nat) : Prop := TLD h S P K R ∧ 1 ≤ S ∧ S ≤ 6 ∧ 1 ≤ P ∧ P ≤ 8 ∧ 1 ≤ K ∧ K ≤ 3 ∧ 1 ≤ R ∧ R ≤ 3
theorem QR.nn {h : sV} {S P K R : Nat} (Z : QR h S P K R) : nN (h 0) = S ∧ nN (h 1) = P ∧ nN (h 2) = K ∧ nN (h 3) = R ∧ mkN h = S * P ∧ S * P ≤ 48 ∧ 1 ≤ S * P := by
  obtain ⟨T, s1, s2, p1, p2, k1, k2, r1, r2⟩ := Z
  have a0 : nN (h 0) = S := by rw [T.2.1]; exact nN_o (by omega)
  have a1 : nN (h 1) = P := by rw [T.2.2.1]; exact nN_o (by omega)
  refine ⟨a0, a1, ?_, ?_, ?_, Nat.mul_le_mul s2 p2, Nat.mul_pos s1 p1⟩
  · rw [T.2.2.2.1]; exact nN_o (by omega)
  · rw [T.2.2.2.2.1]; exact nN_o (by omega)
  · unfold mkN; rw [a0, a1]
theorem QR.e {h : sV} {S P K R : Nat} (Z : QR h S P K R) : h 0 = Int32.ofNat S ∧ h 1 = Int32.ofNat P ∧ h 2 = Int32.ofNat K ∧ h 3 = Int32.ofNat R := ⟨Z.1.2.1, Z.1.2.2.1, Z.1.2.2.2.1, Z.1.2.2.2.2.1⟩
/-- World and object stand for the same rows -/
def GE (e : dEnv) (x0 x b0 l0 N : Nat) (f : Nat → Int32) (w : Nat) (h : sV) (C SS a Y : Nat) (s : sV) (m : dMem) : Prop := ∃ bb l nb ad yr, GS e x0 x b0 l0 N f a bb C SS l nb Y ad h s Y s m ∧ ad 0 = w ∧ s 0 = Int32.ofNat yr ∧ 1900 ≤ yr ∧ yr ≤ Y
theorem OKW_move {nb Y : Nat} {X : wX} {h s : sV} (Z : OKW nb Y X h s) {k i j : Nat} (hk : k < nb) (hg : gonB s k = false) (hi : i < nN (h 0)) (hj : j < nN (h 1)) : OKW nb Y (uX X (7 + 2 * k) (wr (wr (X (7 + 2 * k)) 5 (Int32.ofNat i)) 6 (Int32.ofNat j))) h (lay s k 4 (Int32.ofNat (i * nN (h 1) + j))) := by
  have hq : i * nN (h 1) + j < mkN h := mk_lt hi hj
  refine OKW_box (k := k) Z (WS_4 Z.2.2.1 Z.2.2.2 hg hq) (fun j hj => lay_lo hj) (lay_oth (by omega)) (fun j h1 h2 => uX_n h1) (fun hk => ?_)
  obtain ⟨⟨v0, v1, v2, v3, v5, v6, v8, v7, vm, vq⟩, wb, hk24⟩ := Z.box hk
  have hw := wb.2.2.2.2.2.2.1.2.2
  have eo : ∀ f, f < 12 → f ≠ 4 → bx (lay s k 4 (Int32.ofNat (i * nN (h 1) + j))) k f = bx s k f := fun f h1 h2 => lay_n (by omega) h1 h2
  refine ⟨?_, ?_, ?_, ?_, ?_, ?_, ?_, ?_, fun z => ?_, fun i hi => ?_⟩
  · rw [uX_s, wr_n (by omega), wr_n (by omega), eo 0 (by omega) (by omega)]; exact v0
  · rw [uX_s, wr_n (by omega), wr_n (by omega), eo 1 (by omega) (by omega)]; exact v1
  · rw [uX_s, wr_n (by omega), wr_n (by omega), eo 2 (by omega) (by omega)]; exact v2
  · rw [uX_s, wr_n (by omega), wr_n (by omega), eo 3 (by omega) (by omega)]; exact v3
  · rw [uX_s, wr_n (by omega), wr_n (by omega), eo 5 (by omega) (by omega)]; exact v5
  · rw [uX_s, wr_n (by omega), wr_n (by omega), eo 6 (by omega) (by omega)]; exact v6
  · rw [uX_s, wr_n (by omega), wr_n (by omega), eo 8 (by omega) (by omega)]; exact v8
  · rw [uX_s, wr_n (by omega), wr_n (by omega), eo 7 (by omega) (by omega)]; exact v7
  · refine ⟨i, j, hi, hj, ?_, ?_, lay_s (by omega)⟩
    · rw [uX_s, wr_n (by omega), wr_s]
    · rw [uX_s, wr_s]
  · rw [eo 8 (by omega) (by omega)] at hi
    rw [uX_n (by omega), eo (9 + i) (by omega) (by omega)]
    exact vq i hi
theorem OKW_stk {nb Y : Nat} {X : wX} {h s : sV} (hY : Y ≤ 1000000) (Z : OKW nb Y X h s) {k p y : Nat} (hk : k < nb) (hp : p < nlS s) (hx : s (3 + p) = Int32.ofNat k) (hy : y ≤ 20) : OKW nb Y (uX (uX (uX X 6 (shQ p (nlS s - 1 - p) (X 6))) 0 (wr (X 0) 13 (Int32.ofNat (nlS s - 1)))) (7 + 2 * k) (wr (X (7 + 2 * k)) 3 (bx s k 2 + Int32.ofNat y))) h (stkS s k (Int32.ofNat y)) := by
  obtain ⟨g1, g2, g3, g4⟩ := stk_is (y := Int32.ofNat y) Z.2.2.1 hp hx
  have W' := WS_stk (y := y) hY Z.2.2.1 Z.2.2.2 (by rw [Z.1]; exact hk) hp hx hy
  have hl24 : nlS s ≤ 24 := Z.2.2.1.2.1.2.2
  have n1 : nbS (stkS s k (Int32.ofNat y)) = nbS s := by unfold nbS; rw [g1 1 (by omega)]
  have n2 : nlS (stkS s k (Int32.ofNat y)) = nlS s - 1 := by unfold nlS at hl24 hp ⊢; rw [g2]; exact nN_o (by unfold nlS; omega)
  obtain ⟨a1, a2, a3, a4, a5, a6⟩ := Z.2.1
  refine ⟨n1.trans Z.1, ⟨?_, ?_, ?_, VH_congr a4 (fun f hf => ?_) (fun i h1 h2 => ?_), fun k' hk' => ?_, fun i hi => ?_⟩, W', Z.2.2.2⟩
  · rw [uX_n (by omega), uX_s, wr_n (by omega), g1 0 (by omega)]; exact a1
  · rw [uX_n (by omega), uX_s, wr_n (by omega), g1 1 (by omega)]; exact a2
  · rw [uX_n (by omega), uX_s, wr_s, g2]
  · rw [uX_n (by omega), uX_s, wr_n (by omega)]
  · rw [uX_n (by omega), uX_n (by omega), uX_n (by omega)]
  · rw [n1] at hk'
    have hv := a5 k' hk'
    obtain ⟨v0, v1, v2, v3, v5, v6, v8, v7, vm, vq⟩ := hv
    have eo : ∀ f, f < 12 → f ≠ 2 → bx (stkS s k (Int32.ofNat y)) k' f = bx s k' f := fun f h1 h2 => by rw [g4 k' f h1, if_neg (by omega)]
    by_cases q : k' = k
    · subst q
      refine ⟨?_, ?_, ?_, ?_, ?_, ?_, ?_, ?_, fun z => ?_, fun i hi => ?_⟩
      · rw [uX_s, wr_n (by omega), eo 0 (by omega) (by omega)]; exact v0
      · rw [uX_s, wr_n (by omega), eo 1 (by omega) (by omega)]; exact v1
      · rw [uX_s, wr_s, g4 k' 2 (by omega), if_pos ⟨rfl, rfl⟩]
      · rw [uX_s, wr_n (by omega), eo 3 (by omega) (by omega)]; exact v3
      · rw [uX_s, wr_n (by omega), eo 5 (by omega) (by omega)]; exact v5
      · rw [uX_s, wr_n (by omega), eo 6 (by omega) (by omega)]; exact v6
      · rw [uX_s, wr_n (by omega), eo 8 (by omega) (by omega)]; exact v8
      · rw [uX_s, wr_n (by omega), eo 7 (by omega) (by omega)]; exact v7
      · rw [eo 7 (by omega) (by omega)] at z
        rw [uX_s, wr_n (by omega), wr_n (by omega), eo 4 (by omega) (by omega)]
        exact vm z
      · rw [eo 8 (by omega) (by omega)] at hi
        have hw := (Z.2.2.1.2.2.2.1 k' hk').2.2.2.2.2.2.1.2.2
        rw [uX_n (by omega), uX_n (by omega), uX_n (by omega), eo (9 + i) (by omega) (by omega)]
        exact vq i hi
    · have hw := (Z.2.2.1.2.2.2.1 k' hk').2.2.2.2.2.2.1.2.2
      exact VB_congr (a5 k' hk') hw (by rw [uX_n (by omega), uX_n (by omega), uX_n (by omega)]) (by rw [uX_n (by omega), uX_n (by omega), uX_n (by omega)]) (fun f hf => by rw [g4 k' f hf, if_neg (fun z => q z.1)])
  · rw [n2] at hi
    rw [uX_n (by omega), uX_n (by omega), uX_s, shQ_at, g3 i hi]
    by_cases q : i < p
    · rw [if_neg (by omega), if_pos q]
      exact a6 i (by omega)
    · rw [if_pos (by omega), if_neg q]
      exact a6 (i + 1) (by omega)
section
variable {e : dEnv} {d nb Y x b0 l0 : Nat} {ad : Nat → Nat} {h s : sV} {m : dMem}
theorem v_move (Z : WST e nb Y ad h s m) {k i j : Nat} (hk : k < nb) (hg : gonB s k = false) (hi : i < nN (h 0)) (hj : j < nN (h 1)) (hb : boxOnS s (Int32.ofNat (i * nN (h 1) + j)) = nM1) : ∃ m1 m', pI e m (ad (7 + 2 * k)) 10 5 (Int32.ofNat i) = some m1 ∧ pI e m1 (ad (7 + 2 * k)) 10 6 (Int32.ofNat j) = some m' ∧ WST e nb Y ad h (lay s k 4 (Int32.ofNat (i * nN (h 1) + j))) m' ∧ fW nb ad m m' 0 0 := by
  obtain ⟨m', g, W', F⟩ := Z.chp (run := fun m => (pI e m (ad (7 + 2 * k)) 10 5 (Int32.ofNat i)).bind fun m1 => pI e m1 (ad (7 + 2 * k)) 10 6 (Int32.ofNat j)) (SIN_f Z.2.2.2.1 (by omega) (by omega) (by omega)) (INV_4 Z.inv (by rw [Z.nbs.1]; exact Z.nbs.2.1) hb) (fun X hI hE Z' => ⟨_, by
    show (pI e (wM nb ad X m) (ad (7 + 2 * k)) 10 5 (Int32.ofNat i)).bind _ = _
    rw [B_p5 hI hE hk, bd_s, B_p6 hI hE hk, uX_uX, uX_s], OKW_move Z' hk hg hi hj⟩)
  cases g1 : pI e m (ad (7 + 2 * k)) 10 5 (Int32.ofNat i) with
  | none => rw [g1] at g; cases g
  | some m1 => rw [g1] at g; exact ⟨m1, m', rfl, g, W', F⟩
theorem v_back (Z : WST e nb Y ad h s m) {k : Nat} (hk : k < nb) : ∃ m', pI e m (ad (7 + 2 * k)) 10 7 nM1 = some m' ∧ WST e nb Y ad h (lay s k 5 nM1) m' ∧ fW nb ad m m' 0 0 := Z.chp (run := fun m => pI e m (ad (7 + 2 * k)) 10 7 nM1) (SIN_5n Z.2.2.2.1) (INV_5n Z.inv) (fun X hI hE Z' => ⟨_, B_p7 hI hE hk, OKW_eol Z'⟩)
/-- a box is struck off the list -/
theorem v_strike (Z : WST e nb Y ad h s m) (hY : Y ≤ 1000000) {k p y : Nat} (hk : k < nb) (hp : p < nlS s) (hx : s (3 + p) = Int32.ofNat k) (hy : y ≤ 20) : ∃ m1 m2 m', (∀ t, runL e (dN e (d + 19)) 194 (t + 30) 45 [some (.ref x), some (.ref (ad 0)), none, none, some (.int (Int32.ofNat k)), none, none, some (.ref (ad (7 + 2 * k))), none, some (.int (Int32.ofNat y)), some (.int (Int32.ofNat (p + 1)))] [] m = runL e (dN e (d + 19)) 194 (t + 30 - (nlS s - p)) 46 [some (.ref x), some (.ref (ad 0)), none, none, some (.int (Int32.ofNat k)), none, none, some (.ref (ad (7 + 2 * k))), none, some (.int (Int32.ofNat y)), none] [] m1) ∧ gI m1 (ad 0) 12 13 = some (Int32.ofNat (nlS s)) ∧ pI e m1 (ad 0) 12 13 (Int32.ofNat (nlS s - 1)) = some m2 ∧ gI m2 (ad (7 + 2 * k)) 10 3 = some (bx s k 2) ∧ pI e m2 (ad (7 + 2 * k)) 10 3 (bx s k 2 + Int32.ofNat y) = some m' ∧ WST e nb Y ad h (stkS s k (Int32.ofNat y)) m' ∧ fW nb ad m m' 0 0 := by
  have Z0 := Z
  obtain ⟨hI, hE, hb, V1, V2, X, hX, Z'⟩ := Z
  have hl24 : nlS s ≤ 24 := Z'.2.2.1.2.1.2.2
  obtain ⟨l, hl, hl0, hl1⟩ := Z'.nl
  have loop : ∀ c j t, j + c = nlS s → p + 1 ≤ j → runL e (dN e (d + 19)) 194 (t + c + 1) 45 [some (.ref x), some (.ref (ad 0)), none, none, some (.int (Int32.ofNat k)), none, none, some (.ref (ad (7 + 2 * k))), none, some (.int (Int32.ofNat y)), some (.int (Int32.ofNat j))] [] (wM nb ad (uX X 6 (shQ p (j - 1 - p) (X 6))) m) = runL e (dN e (d + 19)) 194 t 46 [some (.ref x), some (.ref (ad 0)), none, none, some (.int (Int32.ofNat k)), none, none, some (.ref (ad (7 + 2 * k))), none, some (.int (Int32.ofNat y)), none] [] (wM nb ad (uX X 6 (shQ p (nlS s - 1 - p) (X 6))) m) := by
    intro c
    induction c with
    | zero =>
      intro j t hj hpj
      have hjl : j = nlS s := by omega
      subst hjl
      rw [Nat.add_zero, q194_45, W_g13 hI, bd_s, uX_n (by omega), hl, if_neg (by rw [nLt (by omega) (by omega)]; omega)]
    | succ c ih =>
      intro j t hj hpj
      have ejs : shQ p (j + 1 - 1 - p) (X 6) = wr (shQ p (j - 1 - p) (X 6)) (j - 1) (shQ p (j - 1 - p) (X 6) j) := by
        rw [show j + 1 - 1 - p = (j - 1 - p) + 1 by omega]
        show wr (shQ p (j - 1 - p) (X 6)) (p + (j - 1 - p)) (shQ p (j - 1 - p) (X 6) (p + (j - 1 - p) + 1)) = _
        rw [show p + (j - 1 - p) = j - 1 by omega, show j - 1 + 1 = j by omega]
      have ih := ih (j + 1) t (by omega) (by omega)
      rw [ejs] at ih
      rw [show t + (c + 1) + 1 = (t + c + 1) + 1 by omega, q194_45, W_g13 hI, bd_s, uX_n (by omega), hl, if_pos (by rw [nLt (by omega) (by omega)]; omega), W_r10 hI, bd_s, bd_s, W_a6 hI (by omega), bd_s, uX_s, nSub (by omega), W_s6 hI hE (by omega), bd_s, uX_uX, uX_s, nAdd]
      exact ih
  have s0 : shQ p 0 (X 6) = X 6 := rfl
  have e0 : uX X 6 (X 6) = X := by
    funext i
    unfold uX
    split
    · rename_i q; rw [q]
    · rfl
  have hm : wM nb ad X m = m := wM_self hX
  have Zn := OKW_stk hY Z' hk hp hx hy
  obtain ⟨mf, hmf⟩ : ∃ mf, mf = wM nb ad (uX (uX (uX X 6 (shQ p (nlS s - 1 - p) (X 6))) 0 (wr (X 0) 13 (Int32.ofNat (nlS s - 1)))) (7 + 2 * k) (wr (X (7 + 2 * k)) 3 (bx s k 2 + Int32.ofNat y))) m := ⟨_, rfl⟩
  refine ⟨wM nb ad (uX X 6 (shQ p (nlS s - 1 - p) (X 6))) m, wM nb ad (uX (uX X 6 (shQ p (nlS s - 1 - p) (X 6))) 0 (wr (X 0) 13 (Int32.ofNat (nlS s - 1)))) m, mf, fun t => ?_, ?_, ?_, ?_, ?_, ?_, ?_⟩
  · have := loop (nlS s - (p + 1)) (p + 1) (t + 30 - (nlS s - p)) (by omega) (Nat.le_refl _)
    rw [show t + 30 - (nlS s - p) + (nlS s - (p + 1)) + 1 = t + 30 by omega, show p + 1 - 1 - p = 0 by omega, s0, e0, hm] at this
    exact this
  · rw [W_g13 hI, uX_n (by omega), hl, hl0]
  · rw [W_p13 hI hE, uX_n (by omega)]
  · rw [B_g3 hI hk, uX_n (by omega), uX_n (by omega)]
    exact congrArg some (Z'.box hk).1.2.2.1
  · rw [B_p3 hI hE hk, uX_n (by omega), uX_n (by omega), hmf]
  · rw [hmf]
    exact Z0.ov (SIN_stk V1 hl24) (INV_stk V2 hl24) (c := 0) (z := 0) rfl Zn
  · rw [hmf]
    exact fW.ov
end
end

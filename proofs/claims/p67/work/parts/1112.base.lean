/-! ===== frames; what of the World is read; names; told rows (printed in part by wip/p67/wg.py) ===== -/
noncomputable section
/-- at most c cells and z slots more -/
def fG (m m' : dMem) (c z : Nat) : Prop := m.2.1 ≤ m'.2.1 ∧ m'.2.1 ≤ m.2.1 + c ∧ m'.2.2 ≤ m.2.2 + z
theorem fG.rf {m : dMem} : fG m m 0 0 := ⟨Nat.le_refl _, Nat.le_refl _, Nat.le_refl _⟩
theorem fG.tr {m m1 m2 : dMem} {c z c' z' : Nat} (a : fG m m1 c z) (b : fG m1 m2 c' z') : fG m m2 (c + c') (z + z') := by
  obtain ⟨a1, a2, a3⟩ := a
  obtain ⟨b1, b2, b3⟩ := b
  exact ⟨by omega, by omega, by omega⟩
theorem fG.le {m m1 : dMem} {c z c' z' : Nat} (a : fG m m1 c z) (h1 : c ≤ c') (h2 : z ≤ z') : fG m m1 c' z' := by
  obtain ⟨a1, a2, a3⟩ := a
  exact ⟨by omega, by omega, by omega⟩
theorem fG.of {m m' : dMem} {c z : Nat} (h : m'.2 = (m.2.1 + c, m.2.2 + z)) : fG m m' c z := by
  unfold fG
  rw [h]
  exact ⟨Nat.le_add_right _ _, Nat.le_refl _, Nat.le_refl _⟩
theorem fG.eq {m m' : dMem} (h : m'.2 = m.2) : fG m m' 0 0 := by
  unfold fG
  rw [h]
  exact ⟨Nat.le_refl _, Nat.le_refl _, Nat.le_refl _⟩
theorem hX.gr {a C S c z : Nat} {b : xB} {l : List Nat} {m m2 : dMem} (Z : hX a b C S l m) (Q : Nat → Prop) (hQ : ∀ q, Q q → b.1 q ∨ (m.2.1 ≤ q ∧ q < m2.2.1)) (hb : ∀ q, q < a → Q q) (h2 : fG m m2 c z) (hk : ∀ q, q < m.2.1 → ¬ b.1 q → m2.1 q = m.1 q) : hX a (Q, b.2) (C + c) (S + z) l m2 := by
  obtain ⟨p, g, w, z1, z2, z3, z4, z5, z6, z7, z8, z9, z10⟩ := Z
  obtain ⟨e0, e1, e2⟩ := h2
  have z71 := z7.1
  refine ⟨p, g, w, ?_, z2, z3, ⟨fun q => ?_, fun q => ?_⟩, by omega, hb, ⟨by omega, fun q hq => ?_⟩, z8, by omega, by omega⟩
  · obtain ⟨F, f, f0, f1, f3, f4, f5, f6, f7⟩ := z1
    exact ⟨F, (hk a z71 z4.1).trans f, f0, f1, f3, (hk p z5 z4.2).trans f4, f5, f6, f7⟩
  · rcases hQ _ q with r | r
    · exact z4.1 r
    · omega
  · rcases hQ _ q with r | r
    · exact z4.2 r
    · omega
  · rcases hQ _ hq with r | r
    · have := z7.2 q r; omega
    · exact r.2
theorem hX.kp {a C S c z : Nat} {b : xB} {l : List Nat} {m m2 : dMem} (Z : hX a b C S l m) (h2 : fG m m2 c z) (hk : ∀ q, q < m.2.1 → ¬ b.1 q → m2.1 q = m.1 q) : hX a b (C + c) (S + z) l m2 := Z.gr b.1 (fun q h => Or.inl h) Z.pr.1 h2 hk
section
variable {e : dEnv} {d nb Y : Nat} {ad : Nat → Nat} {h s : sV} {m : dMem}
theorem WST.fr {m' : dMem} (Z : WST e nb Y ad h s m) (he : ∀ i, i < 7 + 2 * nb → m'.1 (ad i) = m.1 (ad i)) (hb : ∀ i, i < 7 + 2 * nb → ad i < m'.2.1) : WST e nb Y ad h s m' := by
  obtain ⟨hI, hE, -, V1, V2, X, hX, Z'⟩ := Z
  exact ⟨hI, hE, hb, V1, V2, X, hA_mem hX he, Z'⟩
theorem f_c0 (Z : WST e nb Y ad h s m) : isC m (ad 0) 12 = true := Z.rd (P := fun m => isC m (ad 0) 12 = true) (fun X hI Z' => by exact W_c0 hI)
theorem f_yr (Z : WST e nb Y ad h s m) : gI m (ad 0) 12 11 = some (s 0) := Z.rd (P := fun m => gI m (ad 0) 12 11 = some (s 0)) (fun X hI Z' => by rw [W_g11 hI, Z'.yr])
theorem f_nb (Z : WST e nb Y ad h s m) : gI m (ad 0) 12 12 = some (Int32.ofNat nb) := Z.rd (P := fun m => gI m (ad 0) 12 12 = some (Int32.ofNat nb)) (fun X hI Z' => by rw [W_g12 hI, Z'.nbE.1])
theorem f_nl (Z : WST e nb Y ad h s m) : gI m (ad 0) 12 13 = some (s 2) := Z.rd (P := fun m => gI m (ad 0) 12 13 = some (s 2)) (fun X hI Z' => by rw [W_g13 hI, Z'.2.1.2.2.1])
theorem f_S (Z : WST e nb Y ad h s m) : gI m (ad 0) 12 1 = some (h 0) := Z.rd (P := fun m => gI m (ad 0) 12 1 = some (h 0)) (fun X hI Z' => by rw [W_g1 hI, Z'.2.1.2.2.2.1.1])
theorem f_P (Z : WST e nb Y ad h s m) : gI m (ad 0) 12 2 = some (h 1) := Z.rd (P := fun m => gI m (ad 0) 12 2 = some (h 1)) (fun X hI Z' => by rw [W_g2 hI, Z'.2.1.2.2.2.1.2.1])
theorem f_K (Z : WST e nb Y ad h s m) : gI m (ad 0) 12 3 = some (h 2) := Z.rd (P := fun m => gI m (ad 0) 12 3 = some (h 2)) (fun X hI Z' => by rw [W_g3 hI, Z'.2.1.2.2.2.1.2.2.1])
theorem f_R (Z : WST e nb Y ad h s m) : gI m (ad 0) 12 4 = some (h 3) := Z.rd (P := fun m => gI m (ad 0) 12 4 = some (h 3)) (fun X hI Z' => by rw [W_g4 hI, Z'.2.1.2.2.2.1.2.2.2.1])
theorem f_tx (Z : WST e nb Y ad h s m) : gR m (ad 0) 12 0 = some (ad 1000) := Z.rd (P := fun m => gR m (ad 0) 12 0 = some (ad 1000)) (fun X hI Z' => ovA_gR hI (by omega) rfl rfl)
theorem f_rper (Z : WST e nb Y ad h s m) : gR m (ad 0) 12 5 = some (ad 1) := Z.rd (P := fun m => gR m (ad 0) 12 5 = some (ad 1)) (fun X hI Z' => by exact W_r5 hI)
theorem f_rclo (Z : WST e nb Y ad h s m) : gR m (ad 0) 12 6 = some (ad 2) := Z.rd (P := fun m => gR m (ad 0) 12 6 = some (ad 2)) (fun X hI Z' => by exact W_r6 hI)
theorem f_rlim (Z : WST e nb Y ad h s m) : gR m (ad 0) 12 7 = some (ad 3) := Z.rd (P := fun m => gR m (ad 0) 12 7 = some (ad 3)) (fun X hI Z' => by exact W_r7 hI)
theorem f_revr (Z : WST e nb Y ad h s m) : gR m (ad 0) 12 8 = some (ad 4) := Z.rd (P := fun m => gR m (ad 0) 12 8 = some (ad 4)) (fun X hI Z' => by exact W_r8 hI)
theorem f_rbxs (Z : WST e nb Y ad h s m) : gR m (ad 0) 12 9 = some (ad 5) := Z.rd (P := fun m => gR m (ad 0) 12 9 = some (ad 5)) (fun X hI Z' => by exact W_r9 hI)
theorem f_rlst (Z : WST e nb Y ad h s m) : gR m (ad 0) 12 10 = some (ad 6) := Z.rd (P := fun m => gR m (ad 0) 12 10 = some (ad 6)) (fun X hI Z' => by exact W_r10 hI)
theorem f_per (Z : WST e nb Y ad h s m) {c : Nat} (hc : c < nN (h 2)) (h8 : c < 8) : aI m 0 (ad 1) (Int32.ofNat c) = some (h (94 + c)) := Z.rd (P := fun m => aI m 0 (ad 1) (Int32.ofNat c) = some (h (94 + c))) (fun X hI Z' => by rw [W_a1 hI h8, (Z'.2.1.2.2.2.1.2.2.2.2.1 c hc).1])
theorem f_clo (Z : WST e nb Y ad h s m) {c : Nat} (hc : c < nN (h 2)) (h8 : c < 8) : aI m 0 (ad 2) (Int32.ofNat c) = some (h (102 + c)) := Z.rd (P := fun m => aI m 0 (ad 2) (Int32.ofNat c) = some (h (102 + c))) (fun X hI Z' => by rw [W_a2 hI h8, (Z'.2.1.2.2.2.1.2.2.2.2.1 c hc).2.1])
theorem f_evr (Z : WST e nb Y ad h s m) {c : Nat} (hc : c < nN (h 2)) (h8 : c < 8) : aI m 4 (ad 4) (Int32.ofNat c) = some (h (110 + c)) := Z.rd (P := fun m => aI m 4 (ad 4) (Int32.ofNat c) = some (h (110 + c))) (fun X hI Z' => by rw [W_a4 hI h8, (Z'.2.1.2.2.2.1.2.2.2.2.1 c hc).2.2])
theorem f_lim (Z : WST e nb Y ad h s m) {r : Nat} (hr : r < nN (h 3)) (h8 : r < 6) : aI m 0 (ad 3) (Int32.ofNat r) = some (h (40 + r)) := Z.rd (P := fun m => aI m 0 (ad 3) (Int32.ofNat r) = some (h (40 + r))) (fun X hI Z' => by rw [W_a3 hI h8, Z'.2.1.2.2.2.1.2.2.2.2.2 r hr])
theorem f_lst (Z : WST e nb Y ad h s m) {i : Nat} (hi : i < nlS s) (h8 : i < 24) : aI m 0 (ad 6) (Int32.ofNat i) = some (s (3 + i)) := Z.rd (P := fun m => aI m 0 (ad 6) (Int32.ofNat i) = some (s (3 + i))) (fun X hI Z' => by rw [W_a6 hI h8, Z'.2.1.2.2.2.2.2 i hi])
theorem f_box (Z : WST e nb Y ad h s m) {k : Nat} (hk : k < nb) (h8 : k < 24) : aR m 6 (ad 5) (Int32.ofNat k) = some (ad (7 + 2 * k)) := Z.rd (P := fun m => aR m 6 (ad 5) (Int32.ofNat k) = some (ad (7 + 2 * k))) (fun X hI Z' => by exact W_ab hI hk h8)
theorem f_bc (Z : WST e nb Y ad h s m) {k : Nat} (hk : k < nb) : isC m (ad (7 + 2 * k)) 10 = true := Z.rd (P := fun m => isC m (ad (7 + 2 * k)) 10 = true) (fun X hI Z' => by exact B_c hI hk)
theorem f_b0 (Z : WST e nb Y ad h s m) {k : Nat} (hk : k < nb) : gI m (ad (7 + 2 * k)) 10 0 = some (bx s k 0) := Z.rd (P := fun m => gI m (ad (7 + 2 * k)) 10 0 = some (bx s k 0)) (fun X hI Z' => by rw [B_g0 hI hk, (Z'.box hk).1.1])
theorem f_b1 (Z : WST e nb Y ad h s m) {k : Nat} (hk : k < nb) : gI m (ad (7 + 2 * k)) 10 1 = some (bx s k 1) := Z.rd (P := fun m => gI m (ad (7 + 2 * k)) 10 1 = some (bx s k 1)) (fun X hI Z' => by rw [B_g1 hI hk, (Z'.box hk).1.2.1])
theorem f_b3 (Z : WST e nb Y ad h s m) {k : Nat} (hk : k < nb) : gI m (ad (7 + 2 * k)) 10 3 = some (bx s k 2) := Z.rd (P := fun m => gI m (ad (7 + 2 * k)) 10 3 = some (bx s k 2)) (fun X hI Z' => by rw [B_g3 hI hk, (Z'.box hk).1.2.2.1])
theorem f_b4 (Z : WST e nb Y ad h s m) {k : Nat} (hk : k < nb) : gI m (ad (7 + 2 * k)) 10 4 = some (bx s k 3) := Z.rd (P := fun m => gI m (ad (7 + 2 * k)) 10 4 = some (bx s k 3)) (fun X hI Z' => by rw [B_g4 hI hk, (Z'.box hk).1.2.2.2.1])
theorem f_b7 (Z : WST e nb Y ad h s m) {k : Nat} (hk : k < nb) : gI m (ad (7 + 2 * k)) 10 7 = some (bx s k 5) := Z.rd (P := fun m => gI m (ad (7 + 2 * k)) 10 7 = some (bx s k 5)) (fun X hI Z' => by rw [B_g7 hI hk, (Z'.box hk).1.2.2.2.2.1])
theorem f_b8 (Z : WST e nb Y ad h s m) {k : Nat} (hk : k < nb) : gI m (ad (7 + 2 * k)) 10 8 = some (bx s k 6) := Z.rd (P := fun m => gI m (ad (7 + 2 * k)) 10 8 = some (bx s k 6)) (fun X hI Z' => by rw [B_g8 hI hk, (Z'.box hk).1.2.2.2.2.2.1])
theorem f_b9 (Z : WST e nb Y ad h s m) {k : Nat} (hk : k < nb) : gI m (ad (7 + 2 * k)) 10 9 = some (bx s k 8) := Z.rd (P := fun m => gI m (ad (7 + 2 * k)) 10 9 = some (bx s k 8)) (fun X hI Z' => by rw [B_g9 hI hk, (Z'.box hk).1.2.2.2.2.2.2.1])
theorem f_b10 (Z : WST e nb Y ad h s m) {k : Nat} (hk : k < nb) : gI m (ad (7 + 2 * k)) 10 10 = some (bx s k 7) := Z.rd (P := fun m => gI m (ad (7 + 2 * k)) 10 10 = some (bx s k 7)) (fun X hI Z' => by rw [B_g10 hI hk, (Z'.box hk).1.2.2.2.2.2.2.2.1])
theorem f_b10g (Z : WST e nb Y ad h s m) {k : Nat} (hk : k < nb) : gI m (ad (7 + 2 * k)) 10 10 = some (bI (gonB s k)) := Z.rd (P := fun m => gI m (ad (7 + 2 * k)) 10 10 = some (bI (gonB s k))) (fun X hI Z' => by rw [B_g10 hI hk, (Z'.gon hk).1])
theorem f_b56 (Z : WST e nb Y ad h s m) {k : Nat} (hk : k < nb) : ∃ u v, gI m (ad (7 + 2 * k)) 10 5 = some u ∧ gI m (ad (7 + 2 * k)) 10 6 = some v ∧ (gonB s k = false → ∃ i j, i < nN (h 0) ∧ j < nN (h 1) ∧ u = Int32.ofNat i ∧ v = Int32.ofNat j ∧ bx s k 4 = Int32.ofNat (i * nN (h 1) + j)) := Z.rd (P := fun m => ∃ u v, gI m (ad (7 + 2 * k)) 10 5 = some u ∧ gI m (ad (7 + 2 * k)) 10 6 = some v ∧ (gonB s k = false → ∃ i j, i < nN (h 0) ∧ j < nN (h 1) ∧ u = Int32.ofNat i ∧ v = Int32.ofNat j ∧ bx s k 4 = Int32.ofNat (i * nN (h 1) + j))) (fun X hI Z' => by
  refine ⟨_, _, B_g5 hI hk, B_g6 hI hk, fun hg => ?_⟩
  have g7 := (Z'.gon hk).2
  rw [hg] at g7
  exact (Z'.box hk).1.2.2.2.2.2.2.2.2.1 g7)
theorem f_rq (Z : WST e nb Y ad h s m) {k : Nat} (hk : k < nb) : gR m (ad (7 + 2 * k)) 10 2 = some (ad (7 + 2 * k + 1)) := Z.rd (P := fun m => gR m (ad (7 + 2 * k)) 10 2 = some (ad (7 + 2 * k + 1))) (fun X hI Z' => B_r2 hI hk)
theorem f_q (Z : WST e nb Y ad h s m) {k i : Nat} (hk : k < nb) (hi : i < nN (bx s k 8)) (h4 : i < 4) : aI m 0 (ad (7 + 2 * k + 1)) (Int32.ofNat i) = some (bx s k (9 + i)) := Z.rd (P := fun m => aI m 0 (ad (7 + 2 * k + 1)) (Int32.ofNat i) = some (bx s k (9 + i))) (fun X hI Z' => by rw [B_aq hI hk h4, (Z'.box hk).1.2.2.2.2.2.2.2.2.2 i hi])
theorem B_p56 {e : dEnv} {X : wX} (hI : iAd ad (7 + 2 * nb)) (hE : oAd e nb ad) {k f : Nat} {x : Int32} (hk : k < nb) (hf : f ≠ 2) : pI e (wM nb ad X m) (ad (7 + 2 * k)) 10 f x = some (wM nb ad (uX X (7 + 2 * k) (wr (X (7 + 2 * k)) f x)) m) := ovA_pI hI (by omega) (hE _ (by omega)) TW_b (TW_bf hf)
/-- a field is written -/
theorem WST.chp {Y' : Nat} {s' : sV} {run : dMem → Option dMem} (Z : WST e nb Y ad h s m) (V1 : SIN s') (V2 : INV h s') (hP : ∀ X, iAd ad (7 + 2 * nb) → oAd e nb ad → OKW nb Y X h s → ∃ X', run (wM nb ad X m) = some (wM nb ad X' m) ∧ OKW nb Y' X' h s') : ∃ m', run m = some m' ∧ WST e nb Y' ad h s' m' ∧ fW nb ad m m' 0 0 := by
  have Z0 := Z
  obtain ⟨hI, hE, hb, -, -, X, hX, Z'⟩ := Z
  obtain ⟨X', g1, g2⟩ := hP X hI hE Z'
  rw [wM_self hX] at g1
  exact ⟨_, g1, Z0.ov V1 V2 (c := 0) (z := 0) rfl g2, fW.ov⟩
theorem OKW_seal {X : wX} (Z : OKW nb Y X h s) {k : Nat} {x : Int32} : OKW nb Y (uX X (7 + 2 * k) (wr (X (7 + 2 * k)) 4 x)) h (lay s k 3 x) := by
  refine OKW_box (k := k) Z (WS_36 Z.2.2.1 (Or.inl rfl)) (fun j hj => lay_lo hj) (lay_oth (by omega)) (fun j h1 h2 => uX_n h1) (fun hk => ?_)
  obtain ⟨⟨v0, v1, v2, v3, v5, v6, v8, v7, vm, vq⟩, wb, hk24⟩ := Z.box hk
  have hw := wb.2.2.2.2.2.2.1.2.2
  have eo : ∀ f, f < 12 → f ≠ 3 → bx (lay s k 3 x) k f = bx s k f := fun f h1 h2 => lay_n (by omega) h1 h2
  refine ⟨?_, ?_, ?_, ?_, ?_, ?_, ?_, ?_, fun z => ?_, fun i hi => ?_⟩
  · rw [uX_s, wr_n (by omega), eo 0 (by omega) (by omega)]; exact v0
  · rw [uX_s, wr_n (by omega), eo 1 (by omega) (by omega)]; exact v1
  · rw [uX_s, wr_n (by omega), eo 2 (by omega) (by omega)]; exact v2
  · rw [uX_s, wr_s, lay_s (by omega)]
  · rw [uX_s, wr_n (by omega), eo 5 (by omega) (by omega)]; exact v5
  · rw [uX_s, wr_n (by omega), eo 6 (by omega) (by omega)]; exact v6
  · rw [uX_s, wr_n (by omega), eo 8 (by omega) (by omega)]; exact v8
  · rw [uX_s, wr_n (by omega), eo 7 (by omega) (by omega)]; exact v7
  · rw [eo 7 (by omega) (by omega)] at z
    rw [uX_s, wr_n (by omega), wr_n (by omega), eo 4 (by omega) (by omega)]
    exact vm z
  · rw [eo 8 (by omega) (by omega)] at hi
    rw [uX_n (by omega), eo (9 + i) (by omega) (by omega)]
    exact vq i hi
theorem v_seal (Z : WST e nb Y ad h s m) {k : Nat} {x : Int32} (hk : k < nb) (hg : gonB s k = false) : ∃ m', pI e m (ad (7 + 2 * k)) 10 4 x = some m' ∧ WST e nb Y ad h (lay s k 3 x) m' ∧ fW nb ad m m' 0 0 := Z.chp (run := fun m => pI e m (ad (7 + 2 * k)) 10 4 x) (SIN_f Z.2.2.2.1 (by omega) (by omega) (by omega)) (INV_3 Z.inv hg) (fun X hI hE Z' => ⟨_, B_p4 hI hE hk, OKW_seal Z'⟩)
end
/-! names -/
def kN (k : Nat) : List Nat := if k % 2 = 0 then [107, 97 + k] else wd 30
def rN (k : Nat) : List Nat := if k % 2 = 0 then [114, 97 + k] else wd 32
section
variable {e : dEnv} {d x0 : Nat} {m : dMem}
theorem v_kind (St : hSt e x0 m) (hx : x0 ≤ m.2.1) (he : e.1 ≤ x0) {k : Nat} (hk : k < 24) : ∃ r m2, dN e (d + 8) 168 [.int (Int32.ofNat k)] m = some (.inl (some (.ref r)), m2) ∧ hS2 (fun q => (q < x0 ∨ m.2.1 ≤ q) ∧ q < m2.2.1) m2 r (kN k) ∧ (∀ q, q < m.2.1 → m2.1 q = m.1 q) ∧ fG m m2 8 700 := by
  unfold kN
  by_cases hp : k % 2 = 0
  · obtain ⟨m1, g1, Z1, f1, s1⟩ := x366 (e := e) (d := d + 5) (m := m) (by omega)
    have T1 : hS2 (fun q => q < m.2.1) m1 (e.2 29) (wd 29) := ((St 29 (by omega)).to2.mono (fun q h => by have : q < x0 := h; show q < m.2.1; omega)).fr (fun q h => f1 q h)
    obtain ⟨m2, g2, Z2, f2⟩ := x392 (e := e) (d := d + 1) Z1 T1 (by decide) (by decide) (by show ([] : List Nat).length + (wd 29).length ≤ gM 0; decide) (by omega)
    obtain ⟨m3, g3, Z3, f3⟩ := x367 (e := e) (d := d + 2) Z2 (by decide) (v := 97 + k) (by omega) (by omega)
    obtain ⟨m4, g4, Z4, f4, s4⟩ := x393 (e := e) (d := d + 1) Z3 (by omega)
    have p3 := Z3.pr
    have hl : ([] ++ wd 29 ++ [97 + k]).length = 2 := rfl
    rw [hl] at s4
    have s41 : m4.2.1 = m3.2.1 + 2 := by rw [s4]
    have s42 : m4.2.2 = m3.2.2 + (4 + 2) := by rw [s4]
    refine ⟨m3.2.1, m4, ?_, ?_, fun q hq => ?_, by omega, by omega, by omega⟩
    · refine en168 fun t ht => ?_
      obtain ⟨u, rfl⟩ := fu 9 ht rfl
      rw [q168_0, if_neg (by decide +kernel), nMod (by omega) (by omega), hp, if_pos rfl, g1, kV_r, g2, kR_r, nAdd, c16 (by omega), g3, kR_r, g4, kR_r, q168_2]
    · rw [if_pos hp]
      exact Z4.mono (fun q h => ⟨Or.inr (by have := h.1; omega), h.2⟩)
    · rw [f4 q (by omega), f3 q (show q < m.2.1 by omega), f2 q (show q < m.2.1 by omega), f1 q hq]
  · refine ⟨e.2 30, m, ?_, ?_, fun _ _ => rfl, Nat.le_refl _, by omega, by omega⟩
    · refine en168 fun t ht => ?_
      obtain ⟨u, rfl⟩ := fu 9 ht rfl
      rw [q168_0, if_neg (by decide +kernel), nMod (by omega) (by omega), if_neg (by rw [nEq (by omega) (by omega)]; omega), q168_1, q168_2]
    · rw [if_neg hp]
      exact (St 30 (by omega)).to2.mono (fun q h => by have h1 : q < x0 := h; exact ⟨Or.inl h1, by omega⟩)
theorem v_reader (St : hSt e x0 m) (hx : x0 ≤ m.2.1) (he : e.1 ≤ x0) {k : Nat} (hk : k < 24) : ∃ r m2, dN e (d + 8) 169 [.int (Int32.ofNat k)] m = some (.inl (some (.ref r)), m2) ∧ hS2 (fun q => (q < x0 ∨ m.2.1 ≤ q) ∧ q < m2.2.1) m2 r (rN k) ∧ (∀ q, q < m.2.1 → m2.1 q = m.1 q) ∧ fG m m2 8 700 := by
  unfold rN
  by_cases hp : k % 2 = 0
  · obtain ⟨m1, g1, Z1, f1, s1⟩ := x366 (e := e) (d := d + 5) (m := m) (by omega)
    have T1 : hS2 (fun q => q < m.2.1) m1 (e.2 31) (wd 31) := ((St 31 (by omega)).to2.mono (fun q h => by have : q < x0 := h; show q < m.2.1; omega)).fr (fun q h => f1 q h)
    obtain ⟨m2, g2, Z2, f2⟩ := x392 (e := e) (d := d + 1) Z1 T1 (by decide) (by decide) (by show ([] : List Nat).length + (wd 31).length ≤ gM 0; decide) (by omega)
    obtain ⟨m3, g3, Z3, f3⟩ := x367 (e := e) (d := d + 2) Z2 (by decide) (v := 97 + k) (by omega) (by omega)
    obtain ⟨m4, g4, Z4, f4, s4⟩ := x393 (e := e) (d := d + 1) Z3 (by omega)
    have p3 := Z3.pr
    have hl : ([] ++ wd 31 ++ [97 + k]).length = 2 := rfl
    rw [hl] at s4
    have s41 : m4.2.1 = m3.2.1 + 2 := by rw [s4]
    have s42 : m4.2.2 = m3.2.2 + (4 + 2) := by rw [s4]
    refine ⟨m3.2.1, m4, ?_, ?_, fun q hq => ?_, by omega, by omega, by omega⟩
    · refine en169 fun t ht => ?_
      obtain ⟨u, rfl⟩ := fu 9 ht rfl
      rw [q169_0, if_neg (by decide +kernel), nMod (by omega) (by omega), hp, if_pos rfl, g1, kV_r, g2, kR_r, nAdd, c16 (by omega), g3, kR_r, g4, kR_r, q169_2]
    · rw [if_pos hp]
      exact Z4.mono (fun q h => ⟨Or.inr (by have := h.1; omega), h.2⟩)
    · rw [f4 q (by omega), f3 q (show q < m.2.1 by omega), f2 q (show q < m.2.1 by omega), f1 q hq]
  · refine ⟨e.2 32, m, ?_, ?_, fun _ _ => rfl, Nat.le_refl _, by omega, by omega⟩
    · refine en169 fun t ht => ?_
      obtain ⟨u, rfl⟩ := fu 9 ht rfl
      rw [q169_0, if_neg (by decide +kernel), nMod (by omega) (by omega), if_neg (by rw [nEq (by omega) (by omega)]; omega), q169_1, q169_2]
    · rw [if_neg hp]
      exact (St 32 (by omega)).to2.mono (fun q h => by have h1 : q < x0 := h; exact ⟨Or.inl h1, by omega⟩)
/-- the World's text begins -/
theorem x391 {sa : Nat} (T : hS2 (fun q => q < m.2.1) m sa (wd 15)) (he : e.1 ≤ m.2.1) : ∃ m2, dN e (d + 9) 391 [.ref m.2.1, .ref sa] (nO m 1 (dNf 1) (dDef 1)) = some (.inl none, m2) ∧ hX m.2.1 (fun q => q < m.2.1, 10) (m.2.1 + 7) (m.2.2 + 1630) (wd 15) m2 ∧ ∀ q, q < m.2.1 → m2.1 q = m.1 q := by
  have B0 : BLD m.2.1 1 (fun _ => .inr (1, dDef 1)) 4 m (nO m 1 (dNf 1) (dDef 1)) := BLD_O rfl
  obtain ⟨m0, hm0⟩ : ∃ m0, m0 = nO m 1 (dNf 1) (dDef 1) := ⟨_, rfl⟩
  rw [← hm0] at B0 ⊢
  have T0 : hS2 (fun q => q < m.2.1) m0 sa (wd 15) := T.fr (fun q h => B0.2.1 q h)
  obtain ⟨m1, g1, B1⟩ := B0.pv (e := e) (k := 1) (v := .int (Int32.ofNat 0)) (by omega) rfl he
  have T1 : hS2 (fun q => q < m.2.1) m1 sa (wd 15) := T.fr (fun q h => B1.2.1 q h)
  obtain ⟨m2, g2, B2⟩ := B1.np (e := e) (kd := 3) (len := 24) (k := 0) (by omega) rfl he
  have T2 : hS2 (fun q => q < m.2.1) m2 sa (wd 15) := T.fr (fun q h => B2.2.1 q h)
  have e1 : m2.2.1 = m.2.1 + 2 := by rw [B2.2.2]
  have e2 : m2.2.2 = m.2.2 + 28 := by rw [B2.2.2]
  have Z2 : hX m.2.1 (fun q => q < m.2.1, 10) (m.2.1 + 7) (m.2.2 + 1630) [] m2 := ⟨m.2.1 + 1, 10, _, ⟨_, B2.1 0 (by omega), rfl, rfl, rfl, B2.1 1 (by omega), by omega, Nat.zero_le _, by decide⟩, fun i hi => absurd hi (Nat.not_lt_zero _), fun v hv => absurd hv List.not_mem_nil, ⟨Nat.lt_irrefl _, by show ¬ m.2.1 + 1 < m.2.1; omega⟩, by omega, fun q hq => hq, ⟨by omega, fun q hq => by have : q < m.2.1 := hq; omega⟩, Or.inr ⟨rfl, by omega, by omega⟩, by rw [e1]; show _ + (15 - 10) ≤ _; omega, by rw [e2]; show _ + 1602 ≤ _; omega⟩
  obtain ⟨m3, g3, Z3, f3⟩ := x405 (e := e) (d := d) Z2 T2 (by decide) (by decide) (by show ([] : List Nat).length + (wd 15).length ≤ gM 10; decide) he
  refine ⟨m3, ?_, Z3, fun q hq => (f3 q hq).trans (B2.2.1 q hq)⟩
  have g1' : pB e m0 m.2.1 1 1 (Int32.ofNat 0) = some m1 := by
    unfold pB
    rw [if_pos (by decide +kernel)]
    exact g1
  have hv : Int32.ofNat (wd 15).length + Int32.ofNat 16 = Int32.ofNat 24 := by decide +kernel
  have t24 : (Int32.ofNat 24).toInt.toNat = 24 := by decide +kernel
  have c0 := B0.cc (by omega) rfl
  have k394 : dN e (d + 8) 394 [.ref m.2.1, .ref sa] m0 = some (.inl none, m3) := by
    refine en394 c0 fun t ht => ?_
    obtain ⟨u, rfl⟩ := fu 9 ht rfl
    rw [q394_0, s387' T0, kI_r, if_pos (by decide +kernel), hv, q394_2, s388' T0, kI_r, g1', bd_s, if_pos rfl, if_pos (by decide +kernel), t24, q394_4, g2, bd_s, g3, kR_r]
  refine en391 c0 fun t ht => ?_
  obtain ⟨u, rfl⟩ := fu 9 ht rfl
  rw [q391_0, k394, kV_r]
end
/-! what is told: names and numbers of classes and readers -/
def tkT (w : List Nat) : dTok := (fun j => w.getD j 0, fun i => if i = 0 then 1 else 0, fun i => if i = 0 then 0 else w.length, fun i => if i = 0 then w.length else 1, 2, w.length)
theorem tkT_ok {w : List Nat} (hw : ∀ v, v ∈ w → ck v = 1) (l1 : 1 ≤ w.length) (l6 : w.length ≤ 6) : TOK (tkT w) ∧ TKN (tkT w) 0 0 w 1 := by
  have gm : ∀ j, j < w.length → ck (w.getD j 0) = 1 := fun j hj => by
    rw [List.getD_eq_getElem?_getD, List.getElem?_eq_getElem hj]
    exact hw _ (List.getElem_mem hj)
  refine ⟨⟨⟨by show 1 ≤ 2; omega, by show 2 ≤ w.length + 1; omega, by show w.length ≤ 600; omega, rfl, rfl, rfl⟩, fun i hi => ?_, fun j hj => absurd hj (Nat.not_lt_zero _), fun j => ?_⟩, by show 0 + 1 < 2; omega, rfl, rfl, rfl, ?_, fun j hj => ?_⟩
  · have hi2 : i + 1 < 2 := hi
    have hi0 : i = 0 := by omega
    subst hi0
    refine ⟨Or.inl rfl, l1, by show 0 + w.length ≤ w.length; omega, fun j hj => ?_, fun q => absurd rfl q, by show 0 + w.length ≤ w.length; omega, fun j h1 h2 => ?_, fun _ q => ?_⟩
    · show ck (w.getD (0 + j) 0) = 1
      rw [Nat.zero_add]
      exact gm j hj
    · have q1 : 0 + w.length ≤ j := h1
      have q2 : j < w.length := h2
      omega
    · have q1 : 0 + w.length < w.length := q
      omega
  · show w.getD j 0 < 256
    rcases Nat.lt_or_ge j w.length with q | q
    · have := ck_1 (gm j q)
      omega
    · rw [List.getD_eq_getElem?_getD, List.getElem?_eq_none q]
      decide
  · show 0 + w.length ≤ w.length
    omega
  · show w.getD (0 + j) 0 = w.getD j 0
    rw [Nat.zero_add]
theorem WH_clsE {w : List Nat} {p q f : Nat} {h : sV} (W : WH h) (hw : ∀ v, v ∈ w → ck v = 1) (l1 : 1 ≤ w.length) (l6 : w.length ≤ 6) (hn : nN (h 2) ≠ 8) (p1 : 1 ≤ p) (p2 : p ≤ 50) (q2 : q ≤ 50) (f2 : f ≤ 1) : WH (clsE w h p q f) := by
  obtain ⟨Z, K⟩ := tkT_ok hw l1 l6
  rw [← clsH_t K]
  exact WH_cls W Z (by show 0 < 2; omega) rfl hn p1 p2 q2 f2
theorem WH_rdrE {w : List Nat} {p : Nat} {h : sV} (W : WH h) (hw : ∀ v, v ∈ w → ck v = 1) (l1 : 1 ≤ w.length) (l6 : w.length ≤ 6) (hn : nN (h 3) ≠ 6) (p2 : p ≤ 4) : WH (rdrE w h p) := by
  obtain ⟨Z, K⟩ := tkT_ok hw l1 l6
  rw [← rdrH_t K]
  exact WH_rdr W Z (by show 0 < 2; omega) rfl hn p2
theorem clsE_e {w : List Nat} {h : sV} {n p q f i : Nat} (hn : nN (h 2) = n) (h8 : n < 8) : clsE w h p q f i = if i = 2 then Int32.ofNat (n + 1) else if i = 110 + n then Int32.ofNat f else if i = 102 + n then Int32.ofNat q else if i = 94 + n then Int32.ofNat p else if 46 + 6 * n ≤ i ∧ i < 46 + 6 * n + 6 then nmE w (i - (46 + 6 * n)) else h i := by
  subst hn
  rfl
theorem rdrE_e {w : List Nat} {h : sV} {n p i : Nat} (hn : nN (h 3) = n) (h8 : n < 6) : rdrE w h p i = if i = 3 then Int32.ofNat (n + 1) else if i = 40 + n then Int32.ofNat p else if 4 + 6 * n ≤ i ∧ i < 4 + 6 * n + 6 then nmE w (i - (4 + 6 * n)) else h i := by
  subst hn
  rfl
/-- so many classes and readers are told -/
def TLD (h : sV) (S P k r : Nat) : Prop := WH h ∧ h 0 = Int32.ofNat S ∧ h 1 = Int32.ofNat P ∧ h 2 = Int32.ofNat k ∧ h 3 = Int32.ofNat r ∧ (∀ c, c < k → ∀ i, i < 6 → h (46 + 6 * c + i) = nmE (kN c) i) ∧ ∀ c, c < r → ∀ i, i < 6 → h (4 + 6 * c + i) = nmE (rN c) i
theorem nm_ok : ∀ k, k < 3 → ((∀ v, v ∈ kN k → ck v = 1) ∧ 1 ≤ (kN k).length ∧ (kN k).length ≤ 6) ∧ (∀ v, v ∈ rN k → ck v = 1) ∧ 1 ≤ (rN k).length ∧ (rN k).length ≤ 6 := by decide
theorem kN_ne : ∀ k, k < 3 → ∀ c, c < k → ∃ i, i < 6 ∧ nmE (kN c) i ≠ nmE (kN k) i := by
  have : ∀ k, k < 3 → ∀ c, c < k → nmE (kN c) 1 ≠ nmE (kN k) 1 := by decide +kernel
  exact fun k hk c hc => ⟨1, by omega, this k hk c hc⟩
theorem rN_ne : ∀ k, k < 3 → ∀ c, c < k → ∃ i, i < 6 ∧ nmE (rN c) i ≠ nmE (rN k) i := by
  have : ∀ k, k < 3 → ∀ c, c < k → nmE (rN c) 1 ≠ nmE (rN k) 1 := by decide +kernel
  exact fun k hk c hc => ⟨1, by omega, this k hk c hc⟩
theorem TLD_0 {S P : Nat} (s1 : 1 ≤ S) (s2 : S ≤ 6) (p1 : 1 ≤ P) (p2 : P ≤ 8) : TLD (wr (wr zS 0 (Int32.ofNat S)) 1 (Int32.ofNat P)) S P 0 0 := by
  have e0 : wr (wr zS 0 (Int32.ofNat S)) 1 (Int32.ofNat P) 0 = Int32.ofNat S := by rw [wr_n (by omega), wr_s]
  have e1 : wr (wr zS 0 (Int32.ofNat S)) 1 (Int32.ofNat P) 1 = Int32.ofNat P := wr_s _ _ _
  have e2 : wr (wr zS 0 (Int32.ofNat S)) 1 (Int32.ofNat P) 2 = Int32.ofNat 0 := by rw [wr_n (by omega), wr_n (by omega)]; rfl
  have e3 : wr (wr zS 0 (Int32.ofNat S)) 1 (Int32.ofNat P) 3 = Int32.ofNat 0 := by rw [wr_n (by omega), wr_n (by omega)]; rfl
  have n0 : nN (Int32.ofNat 0) = 0 := nN_o (by omega)
  refine ⟨⟨?_, ?_, ?_, ?_, fun c hc => ?_, fun c hc => ?_⟩, e0, e1, e2, e3, fun c hc => absurd hc (Nat.not_lt_zero _), fun c hc => absurd hc (Nat.not_lt_zero _)⟩
  · rw [e0]; exact okI_of s1 s2 (by omega)
  · rw [e1]; exact okI_of p1 p2 (by omega)
  · rw [e2]; exact okI_of (Nat.le_refl _) (by omega) (by omega)
  · rw [e3]; exact okI_of (Nat.le_refl _) (by omega) (by omega)
  · rw [e2, n0] at hc; omega
  · rw [e3, n0] at hc; omega
theorem TLD_c {h : sV} {S P k r p q f : Nat} (Z : TLD h S P k r) (hk : k < 3) (hr : r ≤ 3) (p1 : 1 ≤ p) (p2 : p ≤ 50) (q2 : q ≤ 50) (f2 : f ≤ 1) : TLD (clsE (kN k) h p q f) S P (k + 1) r ∧ (∀ c, c < k → clsE (kN k) h p q f (94 + c) = h (94 + c) ∧ clsE (kN k) h p q f (102 + c) = h (102 + c) ∧ clsE (kN k) h p q f (110 + c) = h (110 + c)) ∧ clsE (kN k) h p q f (94 + k) = Int32.ofNat p ∧ clsE (kN k) h p q f (102 + k) = Int32.ofNat q ∧ clsE (kN k) h p q f (110 + k) = Int32.ofNat f := by
  obtain ⟨z1, z2, z3, z4, z5, z6, z7⟩ := Z
  have hn : nN (h 2) = k := by rw [z4]; exact nN_o (by omega)
  have ee := fun i => clsE_e (w := kN k) (h := h) (p := p) (q := q) (f := f) (i := i) hn (by omega)
  obtain ⟨⟨m1, m2, m3⟩, -⟩ := nm_ok k hk
  refine ⟨⟨WH_clsE z1 m1 m2 m3 (by omega) p1 p2 q2 f2, ?_, ?_, ?_, ?_, fun c hc i hi => ?_, fun c hc i hi => ?_⟩, fun c hc => ⟨?_, ?_, ?_⟩, ?_, ?_, ?_⟩
  · rw [ee, if_neg (by omega), if_neg (by omega), if_neg (by omega), if_neg (by omega), if_neg (by omega)]; exact z2
  · rw [ee, if_neg (by omega), if_neg (by omega), if_neg (by omega), if_neg (by omega), if_neg (by omega)]; exact z3
  · rw [ee, if_pos rfl]
  · rw [ee, if_neg (by omega), if_neg (by omega), if_neg (by omega), if_neg (by omega), if_neg (by omega)]; exact z5
  · rcases Nat.lt_or_ge c k with y | y
    · rw [ee, if_neg (by omega), if_neg (by omega), if_neg (by omega), if_neg (by omega), if_neg (by omega)]; exact z6 c y i hi
    · have : c = k := by omega
      subst this
      rw [ee, if_neg (by omega), if_neg (by omega), if_neg (by omega), if_neg (by omega), if_pos (by omega), show 46 + 6 * c + i - (46 + 6 * c) = i by omega]
  · rw [ee, if_neg (by omega), if_neg (by omega), if_neg (by omega), if_neg (by omega), if_neg (by omega)]; exact z7 c hc i hi
  · rw [ee, if_neg (by omega), if_neg (by omega), if_neg (by omega), if_neg (by omega), if_neg (by omega)]
  · rw [ee, if_neg (by omega), if_neg (by omega), if_neg (by omega), if_neg (by omega), if_neg (by omega)]
  · rw [ee, if_neg (by omega), if_neg (by omega), if_neg (by omega), if_neg (by omega), if_neg (by omega)]
  · rw [ee, if_neg (by omega), if_neg (by omega), if_neg (by omega), if_pos rfl]
  · rw [ee, if_neg (by omega), if_neg (by omega), if_pos rfl]
  · rw [ee, if_neg (by omega), if_pos rfl]
theorem TLD_r {h : sV} {S P k r p : Nat} (Z : TLD h S P k r) (hk : k ≤ 3) (hr : r < 3) (p2 : p ≤ 4) : TLD (rdrE (rN r) h p) S P k (r + 1) ∧ (∀ i, 46 ≤ i → rdrE (rN r) h p i = h i) ∧ (∀ c, c < r → rdrE (rN r) h p (40 + c) = h (40 + c)) ∧ rdrE (rN r) h p (40 + r) = Int32.ofNat p := by
  obtain ⟨z1, z2, z3, z4, z5, z6, z7⟩ := Z
  have hn : nN (h 3) = r := by rw [z5]; exact nN_o (by omega)
  have ee := fun i => rdrE_e (w := rN r) (h := h) (p := p) (i := i) hn (by omega)
  obtain ⟨-, m1, m2, m3⟩ := nm_ok r hr
  refine ⟨⟨WH_rdrE z1 m1 m2 m3 (by omega) p2, ?_, ?_, ?_, ?_, fun c hc i hi => ?_, fun c hc i hi => ?_⟩, fun i hi => ?_, fun c hc => ?_, ?_⟩
  · rw [ee, if_neg (by omega), if_neg (by omega), if_neg (by omega)]; exact z2
  · rw [ee, if_neg (by omega), if_neg (by omega), if_neg (by omega)]; exact z3
  · rw [ee, if_neg (by omega), if_neg (by omega), if_neg (by omega)]; exact z4
  · rw [ee, if_pos rfl]
  · rw [ee, if_neg (by omega), if_neg (by omega), if_neg (by omega)]; exact z6 c hc i hi
  · rcases Nat.lt_or_ge c r with y | y
    · rw [ee, if_neg (by omega), if_neg (by omega), if_neg (by omega)]; exact z7 c y i hi
    · have : c = r := by omega
      subst this
      rw [ee, if_neg (by omega), if_neg (by omega), if_pos (by omega), show 4 + 6 * c + i - (4 + 6 * c) = i by omega]
  · rw [ee, if_neg (by omega), if_neg (by omega), if_neg (by omega)]
  · rw [ee, if_neg (by omega), if_neg (by omega), if_neg (by omega)]
  · rw [ee, if_neg (by omega), if_pos rfl]
end

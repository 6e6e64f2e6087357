/-! ===== the World: its cells (printed by wip/p67/wld1.py) ===== -/
noncomputable section
/-- the World: 0 the object, 1 period, 2 closed, 3 limit, 4 ever, 5 box, 6 list; 7 + 2k box k, 8 + 2k its queue; 1000 the text -/
def TWc (i : Nat) : Nat := if i = 0 then 13 else if i < 7 then 0 else if i % 2 = 1 then 11 else 0
def TWr0 : Nat → Nat
  | 0 => 1001
  | 5 => 2
  | 6 => 3
  | 7 => 4
  | 8 => 5
  | 9 => 6
  | 10 => 7
  | _ => 0
def TWr (nb i k : Nat) : Nat := if i = 0 then TWr0 k else if i = 5 then (if k < nb then 7 + 2 * k + 1 else 0) else if i < 7 then 0 else if i % 2 = 1 then (if k = 2 then i + 2 else 0) else 0
def TWk (i : Nat) : Nat := if i = 4 then 4 else if i = 5 then 6 else 0
def TWn (i : Nat) : Nat := if i = 1 then 8 else if i = 2 then 8 else if i = 4 then 8 else if i = 3 then 6 else if i = 5 then 24 else if i = 6 then 24 else 4
def TW (nb : Nat) : bTab := (TWc, TWr nb, TWk, TWn)
abbrev wM (nb : Nat) (ad : Nat → Nat) (X : wX) (m : dMem) : dMem := ovA (TW nb) (7 + 2 * nb) ad X m
def oAd (e : dEnv) (nb : Nat) (ad : Nat → Nat) : Prop := ∀ i, i < 7 + 2 * nb → e.1 ≤ ad i
theorem TW_b {k : Nat} : TWc (7 + 2 * k) = 11 := by
  unfold TWc
  rw [if_neg (by omega), if_neg (by omega), if_pos (by omega)]
theorem TW_q {k : Nat} : TWc (7 + 2 * k + 1) = 0 := by
  unfold TWc
  rw [if_neg (by omega), if_neg (by omega), if_neg (by omega)]
theorem TW_b2 {nb k : Nat} : TWr nb (7 + 2 * k) 2 = 7 + 2 * k + 1 + 1 := by
  unfold TWr
  rw [if_neg (by omega), if_neg (by omega), if_neg (by omega), if_pos (by omega), if_pos rfl]
theorem TW_bf {nb k f : Nat} (h : f ≠ 2) : TWr nb (7 + 2 * k) f = 0 := by
  unfold TWr
  rw [if_neg (by omega), if_neg (by omega), if_neg (by omega), if_pos (by omega), if_neg h]
theorem TW_kq {k : Nat} : TWk (7 + 2 * k + 1) = 0 := by
  unfold TWk
  rw [if_neg (by omega), if_neg (by omega)]
theorem TW_nq {k : Nat} : TWn (7 + 2 * k + 1) = 4 := by
  unfold TWn
  rw [if_neg (by omega), if_neg (by omega), if_neg (by omega), if_neg (by omega), if_neg (by omega), if_neg (by omega)]
theorem TW_5 {nb k : Nat} (h : k < nb) : TWr nb 5 k = 7 + 2 * k + 1 := by
  unfold TWr
  rw [if_neg (by omega), if_pos rfl, if_pos h]
section
variable {e : dEnv} {nb : Nat} {ad : Nat → Nat} {X : wX} {m : dMem}
theorem W_c0 (hI : iAd ad (7 + 2 * nb)) : isC (wM nb ad X m) (ad 0) 12 = true := ovA_isC hI (by omega) rfl
theorem B_c (hI : iAd ad (7 + 2 * nb)) {k : Nat} (hk : k < nb) : isC (wM nb ad X m) (ad (7 + 2 * k)) 10 = true := ovA_isC hI (by omega) TW_b
theorem W_g1 (hI : iAd ad (7 + 2 * nb)) : gI (wM nb ad X m) (ad 0) 12 1 = some (X 0 1) := ovA_gI hI (by omega) rfl rfl
theorem W_g2 (hI : iAd ad (7 + 2 * nb)) : gI (wM nb ad X m) (ad 0) 12 2 = some (X 0 2) := ovA_gI hI (by omega) rfl rfl
theorem W_g3 (hI : iAd ad (7 + 2 * nb)) : gI (wM nb ad X m) (ad 0) 12 3 = some (X 0 3) := ovA_gI hI (by omega) rfl rfl
theorem W_g4 (hI : iAd ad (7 + 2 * nb)) : gI (wM nb ad X m) (ad 0) 12 4 = some (X 0 4) := ovA_gI hI (by omega) rfl rfl
theorem W_g11 (hI : iAd ad (7 + 2 * nb)) : gI (wM nb ad X m) (ad 0) 12 11 = some (X 0 11) := ovA_gI hI (by omega) rfl rfl
theorem W_g12 (hI : iAd ad (7 + 2 * nb)) : gI (wM nb ad X m) (ad 0) 12 12 = some (X 0 12) := ovA_gI hI (by omega) rfl rfl
theorem W_g13 (hI : iAd ad (7 + 2 * nb)) : gI (wM nb ad X m) (ad 0) 12 13 = some (X 0 13) := ovA_gI hI (by omega) rfl rfl
theorem W_r5 (hI : iAd ad (7 + 2 * nb)) : gR (wM nb ad X m) (ad 0) 12 5 = some (ad 1) := ovA_gR hI (by omega) rfl rfl
theorem W_r6 (hI : iAd ad (7 + 2 * nb)) : gR (wM nb ad X m) (ad 0) 12 6 = some (ad 2) := ovA_gR hI (by omega) rfl rfl
theorem W_r7 (hI : iAd ad (7 + 2 * nb)) : gR (wM nb ad X m) (ad 0) 12 7 = some (ad 3) := ovA_gR hI (by omega) rfl rfl
theorem W_r8 (hI : iAd ad (7 + 2 * nb)) : gR (wM nb ad X m) (ad 0) 12 8 = some (ad 4) := ovA_gR hI (by omega) rfl rfl
theorem W_r9 (hI : iAd ad (7 + 2 * nb)) : gR (wM nb ad X m) (ad 0) 12 9 = some (ad 5) := ovA_gR hI (by omega) rfl rfl
theorem W_r10 (hI : iAd ad (7 + 2 * nb)) : gR (wM nb ad X m) (ad 0) 12 10 = some (ad 6) := ovA_gR hI (by omega) rfl rfl
theorem W_a1 (hI : iAd ad (7 + 2 * nb)) {j : Nat} (hj : j < 8) : aI (wM nb ad X m) 0 (ad 1) (Int32.ofNat j) = some (X 1 j) := ovA_aI (N := 8) hI (by omega) rfl rfl (by decide) rfl (by decide) hj
theorem W_a2 (hI : iAd ad (7 + 2 * nb)) {j : Nat} (hj : j < 8) : aI (wM nb ad X m) 0 (ad 2) (Int32.ofNat j) = some (X 2 j) := ovA_aI (N := 8) hI (by omega) rfl rfl (by decide) rfl (by decide) hj
theorem W_a3 (hI : iAd ad (7 + 2 * nb)) {j : Nat} (hj : j < 6) : aI (wM nb ad X m) 0 (ad 3) (Int32.ofNat j) = some (X 3 j) := ovA_aI (N := 6) hI (by omega) rfl rfl (by decide) rfl (by decide) hj
theorem W_a6 (hI : iAd ad (7 + 2 * nb)) {j : Nat} (hj : j < 24) : aI (wM nb ad X m) 0 (ad 6) (Int32.ofNat j) = some (X 6 j) := ovA_aI (N := 24) hI (by omega) rfl rfl (by decide) rfl (by decide) hj
theorem W_a4 (hI : iAd ad (7 + 2 * nb)) {j : Nat} (hj : j < 8) : aI (wM nb ad X m) 4 (ad 4) (Int32.ofNat j) = some (X 4 j) := ovA_aI (N := 8) hI (by omega) rfl rfl (by decide) rfl (by decide) hj
theorem W_ab (hI : iAd ad (7 + 2 * nb)) {k : Nat} (hk : k < nb) (hb : k < 24) : aR (wM nb ad X m) 6 (ad 5) (Int32.ofNat k) = some (ad (7 + 2 * k)) := ovA_aR (N := 24) hI (by omega) rfl rfl rfl (by decide) hb (TW_5 hk)
theorem B_g0 (hI : iAd ad (7 + 2 * nb)) {k : Nat} (hk : k < nb) : gI (wM nb ad X m) (ad (7 + 2 * k)) 10 0 = some (X (7 + 2 * k) 0) := ovA_gI hI (by omega) TW_b (TW_bf (by decide))
theorem B_g1 (hI : iAd ad (7 + 2 * nb)) {k : Nat} (hk : k < nb) : gI (wM nb ad X m) (ad (7 + 2 * k)) 10 1 = some (X (7 + 2 * k) 1) := ovA_gI hI (by omega) TW_b (TW_bf (by decide))
theorem B_g3 (hI : iAd ad (7 + 2 * nb)) {k : Nat} (hk : k < nb) : gI (wM nb ad X m) (ad (7 + 2 * k)) 10 3 = some (X (7 + 2 * k) 3) := ovA_gI hI (by omega) TW_b (TW_bf (by decide))
theorem B_g4 (hI : iAd ad (7 + 2 * nb)) {k : Nat} (hk : k < nb) : gI (wM nb ad X m) (ad (7 + 2 * k)) 10 4 = some (X (7 + 2 * k) 4) := ovA_gI hI (by omega) TW_b (TW_bf (by decide))
theorem B_g5 (hI : iAd ad (7 + 2 * nb)) {k : Nat} (hk : k < nb) : gI (wM nb ad X m) (ad (7 + 2 * k)) 10 5 = some (X (7 + 2 * k) 5) := ovA_gI hI (by omega) TW_b (TW_bf (by decide))
theorem B_g6 (hI : iAd ad (7 + 2 * nb)) {k : Nat} (hk : k < nb) : gI (wM nb ad X m) (ad (7 + 2 * k)) 10 6 = some (X (7 + 2 * k) 6) := ovA_gI hI (by omega) TW_b (TW_bf (by decide))
theorem B_g7 (hI : iAd ad (7 + 2 * nb)) {k : Nat} (hk : k < nb) : gI (wM nb ad X m) (ad (7 + 2 * k)) 10 7 = some (X (7 + 2 * k) 7) := ovA_gI hI (by omega) TW_b (TW_bf (by decide))
theorem B_g8 (hI : iAd ad (7 + 2 * nb)) {k : Nat} (hk : k < nb) : gI (wM nb ad X m) (ad (7 + 2 * k)) 10 8 = some (X (7 + 2 * k) 8) := ovA_gI hI (by omega) TW_b (TW_bf (by decide))
theorem B_g9 (hI : iAd ad (7 + 2 * nb)) {k : Nat} (hk : k < nb) : gI (wM nb ad X m) (ad (7 + 2 * k)) 10 9 = some (X (7 + 2 * k) 9) := ovA_gI hI (by omega) TW_b (TW_bf (by decide))
theorem B_g10 (hI : iAd ad (7 + 2 * nb)) {k : Nat} (hk : k < nb) : gI (wM nb ad X m) (ad (7 + 2 * k)) 10 10 = some (X (7 + 2 * k) 10) := ovA_gI hI (by omega) TW_b (TW_bf (by decide))
theorem B_r2 (hI : iAd ad (7 + 2 * nb)) {k : Nat} (hk : k < nb) : gR (wM nb ad X m) (ad (7 + 2 * k)) 10 2 = some (ad (7 + 2 * k + 1)) := ovA_gR hI (by omega) TW_b TW_b2
theorem B_aq (hI : iAd ad (7 + 2 * nb)) {k j : Nat} (hk : k < nb) (hj : j < 4) : aI (wM nb ad X m) 0 (ad (7 + 2 * k + 1)) (Int32.ofNat j) = some (X (7 + 2 * k + 1) j) := ovA_aI (N := 4) hI (by omega) TW_q TW_kq (by decide) TW_nq (by decide) hj
theorem W_p11 (hI : iAd ad (7 + 2 * nb)) (hE : oAd e nb ad) {x : Int32} : pI e (wM nb ad X m) (ad 0) 12 11 x = some (wM nb ad (uX X 0 (wr (X 0) 11 x)) m) := ovA_pI hI (by omega) (hE 0 (by omega)) rfl rfl
theorem W_p12 (hI : iAd ad (7 + 2 * nb)) (hE : oAd e nb ad) {x : Int32} : pI e (wM nb ad X m) (ad 0) 12 12 x = some (wM nb ad (uX X 0 (wr (X 0) 12 x)) m) := ovA_pI hI (by omega) (hE 0 (by omega)) rfl rfl
theorem W_p13 (hI : iAd ad (7 + 2 * nb)) (hE : oAd e nb ad) {x : Int32} : pI e (wM nb ad X m) (ad 0) 12 13 x = some (wM nb ad (uX X 0 (wr (X 0) 13 x)) m) := ovA_pI hI (by omega) (hE 0 (by omega)) rfl rfl
theorem W_s6 (hI : iAd ad (7 + 2 * nb)) (hE : oAd e nb ad) {j : Nat} {x : Int32} (hj : j < 24) : sI e (wM nb ad X m) 0 (ad 6) (Int32.ofNat j) x = some (wM nb ad (uX X 6 (wr (X 6) j x)) m) := by
  rw [show wM nb ad X m = ovA (TW nb) (7 + 2 * nb) ad X m from rfl, ovA_sI (T := TW nb) (kd := 0) (N := 24) hI (by omega) (hE 6 (by omega)) rfl rfl (by decide) rfl (by decide) hj, cvI0]
theorem B_p3 (hI : iAd ad (7 + 2 * nb)) (hE : oAd e nb ad) {k : Nat} {x : Int32} (hk : k < nb) : pI e (wM nb ad X m) (ad (7 + 2 * k)) 10 3 x = some (wM nb ad (uX X (7 + 2 * k) (wr (X (7 + 2 * k)) 3 x)) m) := ovA_pI hI (by omega) (hE _ (by omega)) TW_b (TW_bf (by decide))
theorem B_p4 (hI : iAd ad (7 + 2 * nb)) (hE : oAd e nb ad) {k : Nat} {x : Int32} (hk : k < nb) : pI e (wM nb ad X m) (ad (7 + 2 * k)) 10 4 x = some (wM nb ad (uX X (7 + 2 * k) (wr (X (7 + 2 * k)) 4 x)) m) := ovA_pI hI (by omega) (hE _ (by omega)) TW_b (TW_bf (by decide))
theorem B_p5 (hI : iAd ad (7 + 2 * nb)) (hE : oAd e nb ad) {k : Nat} {x : Int32} (hk : k < nb) : pI e (wM nb ad X m) (ad (7 + 2 * k)) 10 5 x = some (wM nb ad (uX X (7 + 2 * k) (wr (X (7 + 2 * k)) 5 x)) m) := ovA_pI hI (by omega) (hE _ (by omega)) TW_b (TW_bf (by decide))
theorem B_p6 (hI : iAd ad (7 + 2 * nb)) (hE : oAd e nb ad) {k : Nat} {x : Int32} (hk : k < nb) : pI e (wM nb ad X m) (ad (7 + 2 * k)) 10 6 x = some (wM nb ad (uX X (7 + 2 * k) (wr (X (7 + 2 * k)) 6 x)) m) := ovA_pI hI (by omega) (hE _ (by omega)) TW_b (TW_bf (by decide))
theorem B_p7 (hI : iAd ad (7 + 2 * nb)) (hE : oAd e nb ad) {k : Nat} {x : Int32} (hk : k < nb) : pI e (wM nb ad X m) (ad (7 + 2 * k)) 10 7 x = some (wM nb ad (uX X (7 + 2 * k) (wr (X (7 + 2 * k)) 7 x)) m) := ovA_pI hI (by omega) (hE _ (by omega)) TW_b (TW_bf (by decide))
theorem B_p8 (hI : iAd ad (7 + 2 * nb)) (hE : oAd e nb ad) {k : Nat} {x : Int32} (hk : k < nb) : pI e (wM nb ad X m) (ad (7 + 2 * k)) 10 8 x = some (wM nb ad (uX X (7 + 2 * k) (wr (X (7 + 2 * k)) 8 x)) m) := ovA_pI hI (by omega) (hE _ (by omega)) TW_b (TW_bf (by decide))
theorem B_p9 (hI : iAd ad (7 + 2 * nb)) (hE : oAd e nb ad) {k : Nat} {x : Int32} (hk : k < nb) : pI e (wM nb ad X m) (ad (7 + 2 * k)) 10 9 x = some (wM nb ad (uX X (7 + 2 * k) (wr (X (7 + 2 * k)) 9 x)) m) := ovA_pI hI (by omega) (hE _ (by omega)) TW_b (TW_bf (by decide))
theorem B_z10 (hI : iAd ad (7 + 2 * nb)) (hE : oAd e nb ad) {k : Nat} (hk : k < nb) : pZ e (wM nb ad X m) (ad (7 + 2 * k)) 10 10 (Int32.ofNat 1) = some (wM nb ad (uX X (7 + 2 * k) (wr (X (7 + 2 * k)) 10 (Int32.ofNat 1))) m) := ovA_pZ (x := true) hI (by omega) (hE _ (by omega)) TW_b (TW_bf (by decide))
theorem B_sq (hI : iAd ad (7 + 2 * nb)) (hE : oAd e nb ad) {k j : Nat} {x : Int32} (hk : k < nb) (hj : j < 4) : sI e (wM nb ad X m) 0 (ad (7 + 2 * k + 1)) (Int32.ofNat j) x = some (wM nb ad (uX X (7 + 2 * k + 1) (wr (X (7 + 2 * k + 1)) j x)) m) := by
  rw [show wM nb ad X m = ovA (TW nb) (7 + 2 * nb) ad X m from rfl, ovA_sI (T := TW nb) (i := 7 + 2 * k + 1) (kd := 0) (N := 4) hI (by omega) (hE _ (by omega)) TW_q TW_kq (by decide) TW_nq (by decide) hj, cvI0]
end
/-! ===== what the World's numbers stand for ===== -/
def VB (X : wX) (h s : sV) (k : Nat) : Prop := X (7 + 2 * k) 0 = bx s k 0 ∧ X (7 + 2 * k) 1 = bx s k 1 ∧ X (7 + 2 * k) 3 = bx s k 2 ∧ X (7 + 2 * k) 4 = bx s k 3 ∧ X (7 + 2 * k) 7 = bx s k 5 ∧ X (7 + 2 * k) 8 = bx s k 6 ∧ X (7 + 2 * k) 9 = bx s k 8 ∧ X (7 + 2 * k) 10 = bx s k 7 ∧
  (bx s k 7 = Int32.ofNat 0 → ∃ i j, i < nN (h 0) ∧ j < nN (h 1) ∧ X (7 + 2 * k) 5 = Int32.ofNat i ∧ X (7 + 2 * k) 6 = Int32.ofNat j ∧ bx s k 4 = Int32.ofNat (i * nN (h 1) + j)) ∧ ∀ i, i < nN (bx s k 8) → X (7 + 2 * k + 1) i = bx s k (9 + i)
def VH (X : wX) (h : sV) : Prop := X 0 1 = h 0 ∧ X 0 2 = h 1 ∧ X 0 3 = h 2 ∧ X 0 4 = h 3 ∧ (∀ c, c < nN (h 2) → X 1 c = h (94 + c) ∧ X 2 c = h (102 + c) ∧ X 4 c = h (110 + c)) ∧ ∀ r, r < nN (h 3) → X 3 r = h (40 + r)
def VS (X : wX) (h s : sV) : Prop := X 0 11 = s 0 ∧ X 0 12 = s 1 ∧ X 0 13 = s 2 ∧ VH X h ∧ (∀ k, k < nbS s → VB X h s k) ∧ ∀ i, i < nlS s → X 6 i = s (3 + i)
def OKW (nb Y : Nat) (X : wX) (h s : sV) : Prop := nbS s = nb ∧ VS X h s ∧ WS Y h s ∧ WH h
section
variable {e : dEnv} {d nb Y : Nat} {ad : Nat → Nat} {X : wX} {h s : sV} {m : dMem}
theorem OKW.nbE (Z : OKW nb Y X h s) : X 0 12 = Int32.ofNat nb ∧ s 1 = Int32.ofNat nb ∧ nbS s = nb ∧ nb ≤ 24 := by
  obtain ⟨n, h1, h2, -, h4⟩ := Z.2.2.1.1.ex
  have hn : nbS s = n := h2
  have h5 := Z.1
  rw [hn] at h5
  subst h5
  exact ⟨Z.2.1.2.1.trans h1, h1, hn, h4⟩
theorem OKW.nl (Z : OKW nb Y X h s) : ∃ n, X 0 13 = Int32.ofNat n ∧ nlS s = n ∧ n ≤ 24 := by
  obtain ⟨n, h1, h2, -, h4⟩ := Z.2.2.1.2.1.ex
  exact ⟨n, Z.2.1.2.2.1.trans h1, h2, h4⟩
theorem OKW.yr (Z : OKW nb Y X h s) : X 0 11 = s 0 := Z.2.1.1
theorem OKW.y (Z : OKW nb Y X h s) : ∃ y, s 0 = Int32.ofNat y ∧ nN (s 0) = y ∧ 1800 ≤ y ∧ y ≤ Y := Z.2.2.1.2.2.1.ex
theorem OKW.box (Z : OKW nb Y X h s) {k : Nat} (hk : k < nb) : VB X h s k ∧ WB h s k ∧ k < 24 := by
  have h1 := Z.nbE
  have h2 : k < nbS s := by omega
  exact ⟨Z.2.1.2.2.2.2.1 k h2, Z.2.2.1.2.2.2.1 k h2, by omega⟩
theorem OKW.sp (Z : OKW nb Y X h s) : ∃ S P, X 0 1 = Int32.ofNat S ∧ X 0 2 = Int32.ofNat P ∧ h 0 = Int32.ofNat S ∧ h 1 = Int32.ofNat P ∧ nN (h 0) = S ∧ nN (h 1) = P ∧ 1 ≤ S ∧ S ≤ 6 ∧ 1 ≤ P ∧ P ≤ 8 ∧ mkN h = S * P ∧ S * P ≤ 48 := by
  obtain ⟨S, a1, a2, a3, a4⟩ := Z.2.2.2.1.ex
  obtain ⟨P, b1, b2, b3, b4⟩ := Z.2.2.2.2.1.ex
  obtain ⟨v1, v2, -⟩ := Z.2.1.2.2.2.1
  refine ⟨S, P, v1.trans a1, v2.trans b1, a1, b1, a2, b2, a3, a4, b3, b4, ?_, ?_⟩
  · unfold mkN; rw [a2, b2]
  · exact Nat.mul_le_mul a4 b4
theorem OKW.kr (Z : OKW nb Y X h s) : ∃ K R, X 0 3 = Int32.ofNat K ∧ X 0 4 = Int32.ofNat R ∧ h 2 = Int32.ofNat K ∧ h 3 = Int32.ofNat R ∧ nN (h 2) = K ∧ nN (h 3) = R ∧ K ≤ 8 ∧ R ≤ 6 := by
  obtain ⟨K, a1, a2, a3, a4⟩ := Z.2.2.2.2.2.1.ex
  obtain ⟨R, b1, b2, b3, b4⟩ := Z.2.2.2.2.2.2.1.ex
  obtain ⟨-, -, v1, v2, -⟩ := Z.2.1.2.2.2.1
  exact ⟨K, R, v1.trans a1, v2.trans b1, a1, b1, a2, b2, a4, b4⟩
/-- a box's class: number, periods, whether for ever -/
theorem OKW.cls (Z : OKW nb Y X h s) {k : Nat} (hk : k < nb) : ∃ c, X (7 + 2 * k) 0 = Int32.ofNat c ∧ bx s k 0 = Int32.ofNat c ∧ clN s k = c ∧ c < 8 ∧ c < nN (h 2) ∧ X 1 c = h (94 + c) ∧ X 2 c = h (102 + c) ∧ X 4 c = bI (forB s h k) ∧ h (110 + c) = bI (forB s h k) := by
  obtain ⟨v, ⟨b0, b1, -⟩, -⟩ := Z.box hk
  obtain ⟨c, c1, c2, -, c4⟩ := b0.ex
  have hc : clN s k = c := c2
  rw [hc] at b1
  obtain ⟨e1, e2, e3⟩ := Z.2.1.2.2.2.1.2.2.2.2.1 c b1
  obtain ⟨-, -, o3, -⟩ := Z.2.2.2.2.2.2.2.1 c b1
  have hf : h (110 + c) = bI (forB s h k) := by
    unfold forB
    rw [hc]
    obtain ⟨v, v1, -, -, v4⟩ := o3.ex
    rw [v1]
    have : v = 0 ∨ v = 1 := by omega
    rcases this with z | z <;> subst z <;> decide +kernel
  exact ⟨c, v.1.trans c1, c1, hc, by omega, b1, e1, e2, e3.trans hf, hf⟩
/-- whether a box is gone -/
theorem OKW.gon (Z : OKW nb Y X h s) {k : Nat} (hk : k < nb) : X (7 + 2 * k) 10 = bI (gonB s k) ∧ bx s k 7 = bI (gonB s k) := by
  obtain ⟨v, wb, -⟩ := Z.box hk
  have h2 : bx s k 7 = bI (gonB s k) := by
    unfold gonB
    rcases wb.2.2.2.2.1 with ⟨-, y⟩ | ⟨-, -, y⟩ <;> rw [y] <;> decide +kernel
  exact ⟨v.2.2.2.2.2.2.2.1.trans h2, h2⟩
/-- who holds a box: nobody (below 0) or a reader -/
theorem OKW.hld (Z : OKW nb Y X h s) {k : Nat} (hk : k < nb) : X (7 + 2 * k) 7 = bx s k 5 ∧ (bx s k 5 < Int32.ofNat 0) = (bx s k 5 = nM1) := by
  obtain ⟨v, wb, -⟩ := Z.box hk
  refine ⟨v.2.2.2.2.1, ?_⟩
  rcases wb.2.2.2.2.2.1 with y | ⟨y, -⟩
  · rw [y, nMLt (by omega)]; simp
  · obtain ⟨n, n1, -, -, n4⟩ := y.ex
    rw [n1, nLt (by omega) (by omega), nEqM (by omega)]; simp
theorem OKW.wt (Z : OKW nb Y X h s) {k : Nat} (hk : k < nb) : ∃ w, X (7 + 2 * k) 9 = Int32.ofNat w ∧ bx s k 8 = Int32.ofNat w ∧ nN (bx s k 8) = w ∧ w ≤ 3 ∧ (∀ i, i < w → X (7 + 2 * k + 1) i = bx s k (9 + i)) ∧ ∀ i, i < w → ∃ r, bx s k (9 + i) = Int32.ofNat r ∧ nN (bx s k (9 + i)) = r ∧ r < 6 ∧ r < nN (h 3) ∧ X 3 r = h (40 + r) := by
  obtain ⟨v, wb, -⟩ := Z.box hk
  obtain ⟨w, w1, w2, -, w4⟩ := wb.2.2.2.2.2.2.1.ex
  refine ⟨w, v.2.2.2.2.2.2.1.trans w1, w1, w2, w4, fun i hi => v.2.2.2.2.2.2.2.2.2 i (by omega), fun i hi => ?_⟩
  obtain ⟨a1, a2⟩ := wb.2.2.2.2.2.2.2 i (by omega)
  obtain ⟨r, r1, r2, -, r4⟩ := a1.ex
  rw [r2] at a2
  exact ⟨r, r1, r2, by omega, a2, Z.2.1.2.2.2.1.2.2.2.2.2 r a2⟩
theorem mk_uniq {P i j i' j' : Nat} (hj : j < P) (hj' : j' < P) (h : i * P + j = i' * P + j') : i = i' ∧ j = j' := by
  have h1 : (i * P + j) / P = i := by rw [Nat.mul_comm, Nat.mul_add_div (by omega), Nat.div_eq_of_lt hj, Nat.add_zero]
  have h2 : (i' * P + j') / P = i' := by rw [Nat.mul_comm, Nat.mul_add_div (by omega), Nat.div_eq_of_lt hj', Nat.add_zero]
  have h3 : i = i' := by rw [← h1, ← h2, h]
  subst h3
  exact ⟨rfl, by omega⟩
theorem mk_lt {S P i j : Nat} (hi : i < S) (hj : j < P) : i * P + j < S * P := by
  calc i * P + j < i * P + P := by omega
    _ = (i + 1) * P := by rw [Nat.succ_mul]
    _ ≤ S * P := Nat.mul_le_mul_right P hi
theorem w_at (hI : iAd ad (7 + 2 * nb)) (Z : OKW nb Y X h s) {i j : Nat} (hi : i < nN (h 0)) (hj : j < nN (h 1)) : dN e (d + 1) 171 [.ref (ad 0), .int (Int32.ofNat i), .int (Int32.ofNat j)] (wM nb ad X m) = rI (boxOnS s (Int32.ofNat (i * nN (h 1) + j))) (wM nb ad X m) := by
  obtain ⟨hX, hs1, hn0, hn⟩ := Z.nbE
  obtain ⟨S, P, x1, x2, s1, s2, p1, p2, u1, u2, u3, u4, mk, mk8⟩ := Z.sp
  rw [p2] at hj ⊢
  rw [p1] at hi
  have hlt := mk_lt hi hj
  refine en171 (W_c0 hI) fun t ht => ?_
  obtain ⟨u, rfl⟩ := fu 1 ht rfl
  rw [q171_0]
  unfold boxOnS
  rw [hn0]
  have step : ∀ k, k < nb → decide (bx s k 4 = Int32.ofNat (i * P + j)) = false → ∀ t, runL e (dN e d) 171 (t + 2) 1 [some (.ref (ad 0)), some (.int (Int32.ofNat i)), some (.int (Int32.ofNat j)), some (.int (Int32.ofNat k))] [] (wM nb ad X m) = runL e (dN e d) 171 t 1 [some (.ref (ad 0)), some (.int (Int32.ofNat i)), some (.int (Int32.ofNat j)), some (.int (Int32.ofNat (k + 1)))] [] (wM nb ad X m) := by
    intro k hk hp t
    obtain ⟨v, wb, hk24⟩ := Z.box hk
    obtain ⟨v0, v1, v2, v3, v5, v6, v8, v7, vm, vq⟩ := v
    rcases wb.2.2.2.2.1 with ⟨w4, w7⟩ | ⟨w4, w5, w7⟩
    · simp -implicitDefEqProofs (disch := omega) only [↓reduceIte, q171_1, q171_2, hX, hk, v7, w7, bd_s, kI_r, kV_r, kL_r, rZ_1, rZ_0, rZ_b, rI_ite, bI_ite, ite_tf, ite_ft, bI0, bI1, bf_ite, nAdd, nMul, nLt, nEq, nEqM, nMEq, nMLt, nLtM, nMLt0, if_true, if_false, Nat.reduceAdd, Nat.reduceMul, Nat.zero_add, Nat.add_zero, decide_eq_true_eq, decide_true, decide_false, Nat.reduceEqDiff, Nat.reduceLT, Nat.reduceLeDiff, eq_self, Bool.false_eq_true, Bool.true_eq_false, Bool.not_eq_false', Bool.not_eq_true', ite_not, W_g1 hI, W_g2 hI, W_g3 hI, W_g4 hI, W_g11 hI, W_g12 hI, W_g13 hI, W_r5 hI, W_r6 hI, W_r7 hI, W_r8 hI, W_r9 hI, W_r10 hI, W_a1 hI, W_a2 hI, W_a3 hI, W_a4 hI, W_a6 hI, W_ab hI, B_g0 hI, B_g1 hI, B_g3 hI, B_g4 hI, B_g5 hI, B_g6 hI, B_g7 hI, B_g8 hI, B_g9 hI, B_g10 hI, B_r2 hI, B_aq hI]
    · obtain ⟨i', j', a1, a2, a3, a4, a5⟩ := vm w7
      rw [p1] at a1
      rw [p2] at a2 a5
      have hne : ¬ (i' = i ∧ j' = j) := fun q => by
        rw [a5, q.1, q.2] at hp
        simp at hp
      have hlt' := mk_lt a1 a2
      by_cases g : i' = i
      · have g2 : ¬ j' = j := fun z => hne ⟨g, z⟩
        simp -implicitDefEqProofs (disch := omega) only [↓reduceIte, q171_1, q171_2, hX, hk, v7, w7, a3, a4, g, g2, bd_s, kI_r, kV_r, kL_r, rZ_1, rZ_0, rZ_b, rI_ite, bI_ite, ite_tf, ite_ft, bI0, bI1, bf_ite, nAdd, nMul, nLt, nEq, nEqM, nMEq, nMLt, nLtM, nMLt0, if_true, if_false, Nat.reduceAdd, Nat.reduceMul, Nat.zero_add, Nat.add_zero, decide_eq_true_eq, decide_true, decide_false, Nat.reduceEqDiff, Nat.reduceLT, Nat.reduceLeDiff, eq_self, Bool.false_eq_true, Bool.true_eq_false, Bool.not_eq_false', Bool.not_eq_true', ite_not, W_g1 hI, W_g2 hI, W_g3 hI, W_g4 hI, W_g11 hI, W_g12 hI, W_g13 hI, W_r5 hI, W_r6 hI, W_r7 hI, W_r8 hI, W_r9 hI, W_r10 hI, W_a1 hI, W_a2 hI, W_a3 hI, W_a4 hI, W_a6 hI, W_ab hI, B_g0 hI, B_g1 hI, B_g3 hI, B_g4 hI, B_g5 hI, B_g6 hI, B_g7 hI, B_g8 hI, B_g9 hI, B_g10 hI, B_r2 hI, B_aq hI]
      · simp -implicitDefEqProofs (disch := omega) only [↓reduceIte, q171_1, q171_2, hX, hk, v7, w7, a3, a4, g, bd_s, kI_r, kV_r, kL_r, rZ_1, rZ_0, rZ_b, rI_ite, bI_ite, ite_tf, ite_ft, bI0, bI1, bf_ite, nAdd, nMul, nLt, nEq, nEqM, nMEq, nMLt, nLtM, nMLt0, if_true, if_false, Nat.reduceAdd, Nat.reduceMul, Nat.zero_add, Nat.add_zero, decide_eq_true_eq, decide_true, decide_false, Nat.reduceEqDiff, Nat.reduceLT, Nat.reduceLeDiff, eq_self, Bool.false_eq_true, Bool.true_eq_false, Bool.not_eq_false', Bool.not_eq_true', ite_not, W_g1 hI, W_g2 hI, W_g3 hI, W_g4 hI, W_g11 hI, W_g12 hI, W_g13 hI, W_r5 hI, W_r6 hI, W_r7 hI, W_r8 hI, W_r9 hI, W_r10 hI, W_a1 hI, W_a2 hI, W_a3 hI, W_a4 hI, W_a6 hI, W_ab hI, B_g0 hI, B_g1 hI, B_g3 hI, B_g4 hI, B_g5 hI, B_g6 hI, B_g7 hI, B_g8 hI, B_g9 hI, B_g10 hI, B_r2 hI, B_aq hI]
  refine lp_fI (c := 2) (n := nb) (G := fun t k => runL e (dN e d) 171 t 1 [some (.ref (ad 0)), some (.int (Int32.ofNat i)), some (.int (Int32.ofNat j)), some (.int (Int32.ofNat k))] [] (wM nb ad X m)) ?_ ?_ ?_ u (by omega)
  · intro t k hk hp
    exact step k hk hp t
  · intro t k hk hp
    obtain ⟨v, wb, hk24⟩ := Z.box hk
    obtain ⟨v0, v1, v2, v3, v5, v6, v8, v7, vm, vq⟩ := v
    have hp := of_decide_eq_true hp
    rcases wb.2.2.2.2.1 with ⟨w4, w7⟩ | ⟨w4, w5, w7⟩
    · rw [w4, nMEq (by omega)] at hp
      exact hp.elim
    · obtain ⟨i', j', a1, a2, a3, a4, a5⟩ := vm w7
      rw [p1] at a1
      rw [p2] at a2 a5
      have hlt' := mk_lt a1 a2
      rw [a5, nEq (by omega) (by omega)] at hp
      obtain ⟨rfl, rfl⟩ := mk_uniq a2 hj hp
      simp -implicitDefEqProofs (disch := omega) only [↓reduceIte, q171_1, q171_2, hX, hk, v7, w7, a3, a4, bd_s, kI_r, kV_r, kL_r, rZ_1, rZ_0, rZ_b, rI_ite, bI_ite, ite_tf, ite_ft, bI0, bI1, bf_ite, nAdd, nMul, nLt, nEq, nEqM, nMEq, nMLt, nLtM, nMLt0, if_true, if_false, Nat.reduceAdd, Nat.reduceMul, Nat.zero_add, Nat.add_zero, decide_eq_true_eq, decide_true, decide_false, Nat.reduceEqDiff, Nat.reduceLT, Nat.reduceLeDiff, eq_self, Bool.false_eq_true, Bool.true_eq_false, Bool.not_eq_false', Bool.not_eq_true', ite_not, W_g1 hI, W_g2 hI, W_g3 hI, W_g4 hI, W_g11 hI, W_g12 hI, W_g13 hI, W_r5 hI, W_r6 hI, W_r7 hI, W_r8 hI, W_r9 hI, W_r10 hI, W_a1 hI, W_a2 hI, W_a3 hI, W_a4 hI, W_a6 hI, W_ab hI, B_g0 hI, B_g1 hI, B_g3 hI, B_g4 hI, B_g5 hI, B_g6 hI, B_g7 hI, B_g8 hI, B_g9 hI, B_g10 hI, B_r2 hI, B_aq hI]
  · intro t
    simp -implicitDefEqProofs (disch := omega) only [↓reduceIte, q171_1, q171_3, hX, Nat.lt_irrefl, bd_s, kI_r, kV_r, kL_r, rZ_1, rZ_0, rZ_b, rI_ite, bI_ite, ite_tf, ite_ft, bI0, bI1, bf_ite, nAdd, nMul, nLt, nEq, nEqM, nMEq, nMLt, nLtM, nMLt0, if_true, if_false, Nat.reduceAdd, Nat.reduceMul, Nat.zero_add, Nat.add_zero, decide_eq_true_eq, decide_true, decide_false, Nat.reduceEqDiff, Nat.reduceLT, Nat.reduceLeDiff, eq_self, Bool.false_eq_true, Bool.true_eq_false, Bool.not_eq_false', Bool.not_eq_true', ite_not, W_g1 hI, W_g2 hI, W_g3 hI, W_g4 hI, W_g11 hI, W_g12 hI, W_g13 hI, W_r5 hI, W_r6 hI, W_r7 hI, W_r8 hI, W_r9 hI, W_r10 hI, W_a1 hI, W_a2 hI, W_a3 hI, W_a4 hI, W_a6 hI, W_ab hI, B_g0 hI, B_g1 hI, B_g3 hI, B_g4 hI, B_g5 hI, B_g6 hI, B_g7 hI, B_g8 hI, B_g9 hI, B_g10 hI, B_r2 hI, B_aq hI]
theorem w_free (hI : iAd ad (7 + 2 * nb)) (Z : OKW nb Y X h s) : dN e (d + 2) 172 [.ref (ad 0)] (wM nb ad X m) = rI (fstS s h) (wM nb ad X m) := by
  obtain ⟨S, P, x1, x2, s1, s2, p1, p2, u1, u2, u3, u4, mk, mk8⟩ := Z.sp
  refine en172 (W_c0 hI) fun t ht => ?_
  obtain ⟨u, rfl⟩ := fu 1 ht rfl
  rw [q172_0]
  unfold fstS
  rw [mk]
  have hat : ∀ k, k < S * P → dN e (d + 1) 171 [.ref (ad 0), .int (Int32.ofNat (k / P)), .int (Int32.ofNat (k % P))] (wM nb ad X m) = rI (boxOnS s (Int32.ofNat k)) (wM nb ad X m) := by
    intro k hk
    have e1 : k / P * P + k % P = k := by rw [Nat.mul_comm]; exact Nat.div_add_mod k P
    have h1 := w_at (e := e) (d := d) (m := m) hI Z (i := k / P) (j := k % P) (by rw [p1]; exact Nat.div_lt_of_lt_mul (by rw [Nat.mul_comm]; exact hk)) (by rw [p2]; exact Nat.mod_lt _ (by omega))
    rw [p2, e1] at h1
    exact h1
  have hmd : ∀ k : Nat, Int32.ofNat k - Int32.ofNat (k / P * P) = Int32.ofNat (k % P) := fun k => by
    rw [nSub (Nat.div_mul_le_self k P)]
    congr 1
    have := Nat.div_add_mod k P
    rw [Nat.mul_comm] at this
    omega
  have hbo : ∀ k, k < S * P → (boxOnS s (Int32.ofNat k) < Int32.ofNat 0) = (boxOnS s (Int32.ofNat k) = nM1) := by
    intro k hk
    unfold boxOnS fI
    have h24 := Z.nbE
    cases hq : fnd (nbS s) fun k' => decide (bx s k' 4 = Int32.ofNat k) with
    | none => show (nM1 < Int32.ofNat 0) = (nM1 = nM1); rw [nMLt (by omega)]; simp
    | some z =>
      have := (fnd_some hq).1
      show (Int32.ofNat z < Int32.ofNat 0) = (Int32.ofNat z = nM1)
      rw [nLt (by omega) (by omega), nEqM (by omega)]; simp
  refine lp_fI (c := 2) (n := S * P) (G := fun t k => runL e (dN e (d + 1)) 172 t 1 [some (.ref (ad 0)), some (.int (Int32.ofNat k))] [] (wM nb ad X m)) ?_ ?_ ?_ u (by omega)
  · intro t k hk hp
    have hp : ¬ boxOnS s (Int32.ofNat k) = nM1 := of_decide_eq_false hp
    simp -implicitDefEqProofs (disch := omega) only [↓reduceIte, q172_1, q172_2, x1, x2, hk, nDiv, nMul, hmd k, hat k hk, hbo k hk, hp, (show ¬ P = 0 by omega), bd_s, kI_r, kV_r, kL_r, rZ_1, rZ_0, rZ_b, rI_ite, bI_ite, ite_tf, ite_ft, bI0, bI1, bf_ite, nAdd, nMul, nLt, nEq, nEqM, nMEq, nMLt, nLtM, nMLt0, if_true, if_false, Nat.reduceAdd, Nat.reduceMul, Nat.zero_add, Nat.add_zero, decide_eq_true_eq, decide_true, decide_false, Nat.reduceEqDiff, Nat.reduceLT, Nat.reduceLeDiff, eq_self, Bool.false_eq_true, Bool.true_eq_false, Bool.not_eq_false', Bool.not_eq_true', ite_not, W_g1 hI, W_g2 hI, W_g3 hI, W_g4 hI, W_g11 hI, W_g12 hI, W_g13 hI, W_r5 hI, W_r6 hI, W_r7 hI, W_r8 hI, W_r9 hI, W_r10 hI, W_a1 hI, W_a2 hI, W_a3 hI, W_a4 hI, W_a6 hI, W_ab hI, B_g0 hI, B_g1 hI, B_g3 hI, B_g4 hI, B_g5 hI, B_g6 hI, B_g7 hI, B_g8 hI, B_g9 hI, B_g10 hI, B_r2 hI, B_aq hI]
  · intro t k hk hp
    have hp : boxOnS s (Int32.ofNat k) = nM1 := of_decide_eq_true hp
    simp -implicitDefEqProofs (disch := omega) only [↓reduceIte, q172_1, q172_2, x1, x2, hk, nDiv, nMul, hmd k, hat k hk, hbo k hk, hp, (show ¬ P = 0 by omega), bd_s, kI_r, kV_r, kL_r, rZ_1, rZ_0, rZ_b, rI_ite, bI_ite, ite_tf, ite_ft, bI0, bI1, bf_ite, nAdd, nMul, nLt, nEq, nEqM, nMEq, nMLt, nLtM, nMLt0, if_true, if_false, Nat.reduceAdd, Nat.reduceMul, Nat.zero_add, Nat.add_zero, decide_eq_true_eq, decide_true, decide_false, Nat.reduceEqDiff, Nat.reduceLT, Nat.reduceLeDiff, eq_self, Bool.false_eq_true, Bool.true_eq_false, Bool.not_eq_false', Bool.not_eq_true', ite_not, W_g1 hI, W_g2 hI, W_g3 hI, W_g4 hI, W_g11 hI, W_g12 hI, W_g13 hI, W_r5 hI, W_r6 hI, W_r7 hI, W_r8 hI, W_r9 hI, W_r10 hI, W_a1 hI, W_a2 hI, W_a3 hI, W_a4 hI, W_a6 hI, W_ab hI, B_g0 hI, B_g1 hI, B_g3 hI, B_g4 hI, B_g5 hI, B_g6 hI, B_g7 hI, B_g8 hI, B_g9 hI, B_g10 hI, B_r2 hI, B_aq hI]
  · intro t
    simp -implicitDefEqProofs (disch := omega) only [↓reduceIte, q172_1, q172_3, x1, x2, Nat.lt_irrefl, bd_s, kI_r, kV_r, kL_r, rZ_1, rZ_0, rZ_b, rI_ite, bI_ite, ite_tf, ite_ft, bI0, bI1, bf_ite, nAdd, nMul, nLt, nEq, nEqM, nMEq, nMLt, nLtM, nMLt0, if_true, if_false, Nat.reduceAdd, Nat.reduceMul, Nat.zero_add, Nat.add_zero, decide_eq_true_eq, decide_true, decide_false, Nat.reduceEqDiff, Nat.reduceLT, Nat.reduceLeDiff, eq_self, Bool.false_eq_true, Bool.true_eq_false, Bool.not_eq_false', Bool.not_eq_true', ite_not, W_g1 hI, W_g2 hI, W_g3 hI, W_g4 hI, W_g11 hI, W_g12 hI, W_g13 hI, W_r5 hI, W_r6 hI, W_r7 hI, W_r8 hI, W_r9 hI, W_r10 hI, W_a1 hI, W_a2 hI, W_a3 hI, W_a4 hI, W_a6 hI, W_ab hI, B_g0 hI, B_g1 hI, B_g3 hI, B_g4 hI, B_g5 hI, B_g6 hI, B_g7 hI, B_g8 hI, B_g9 hI, B_g10 hI, B_r2 hI, B_aq hI]
theorem w_gone (hI : iAd ad (7 + 2 * nb)) (Z : OKW nb Y X h s) : dN e (d + 1) 173 [.ref (ad 0)] (wM nb ad X m) = rI (Int32.ofNat (cnt (gonB s) (nbS s))) (wM nb ad X m) := by
  obtain ⟨hX, hs1, hn0, hn⟩ := Z.nbE
  refine en173 (W_c0 hI) fun t ht => ?_
  obtain ⟨u, rfl⟩ := fu 1 ht rfl
  rw [q173_0]
  rw [hn0]
  have key := lp_up2 (c := 3) (n := nb) (G := fun t k => runL e (dN e d) 173 t 1 [some (.ref (ad 0)), some (.int (Int32.ofNat (cnt (gonB s) k))), some (.int (Int32.ofNat k))] [] (wM nb ad X m)) (r := rI (Int32.ofNat (cnt (gonB s) nb)) (wM nb ad X m)) ?_ ?_ u (by omega)
  · simp only [cnt_0] at key
    exact key
  · intro k hk
    obtain ⟨v, wb, hk24⟩ := Z.box hk
    have hg := Z.gon hk
    have hh := Z.hld hk
    have hcn := cnt_le (gonB s) k
    cases hp : (gonB s) k with
    | true =>
      refine ⟨2, by omega, fun t => ?_⟩
      rw [cnt_t hp]
      skip
      simp -implicitDefEqProofs (disch := omega) only [↓reduceIte, q173_1, q173_3, hX, hk, hg.1, hp, bI_t, bI_f, bd_s, kI_r, kV_r, kL_r, rZ_1, rZ_0, rZ_b, rI_ite, bI_ite, ite_tf, ite_ft, bI0, bI1, bf_ite, nAdd, nMul, nLt, nEq, nEqM, nMEq, nMLt, nLtM, nMLt0, if_true, if_false, Nat.reduceAdd, Nat.reduceMul, Nat.zero_add, Nat.add_zero, decide_eq_true_eq, decide_true, decide_false, Nat.reduceEqDiff, Nat.reduceLT, Nat.reduceLeDiff, eq_self, Bool.false_eq_true, Bool.true_eq_false, Bool.not_eq_false', Bool.not_eq_true', ite_not, W_g1 hI, W_g2 hI, W_g3 hI, W_g4 hI, W_g11 hI, W_g12 hI, W_g13 hI, W_r5 hI, W_r6 hI, W_r7 hI, W_r8 hI, W_r9 hI, W_r10 hI, W_a1 hI, W_a2 hI, W_a3 hI, W_a4 hI, W_a6 hI, W_ab hI, B_g0 hI, B_g1 hI, B_g3 hI, B_g4 hI, B_g5 hI, B_g6 hI, B_g7 hI, B_g8 hI, B_g9 hI, B_g10 hI, B_r2 hI, B_aq hI]
    | false =>
      refine ⟨3, by omega, fun t => ?_⟩
      rw [cnt_f hp]
      skip
      simp -implicitDefEqProofs (disch := omega) only [↓reduceIte, q173_1, q173_2, q173_3, hX, hk, hg.1, hp, bI_t, bI_f, bd_s, kI_r, kV_r, kL_r, rZ_1, rZ_0, rZ_b, rI_ite, bI_ite, ite_tf, ite_ft, bI0, bI1, bf_ite, nAdd, nMul, nLt, nEq, nEqM, nMEq, nMLt, nLtM, nMLt0, if_true, if_false, Nat.reduceAdd, Nat.reduceMul, Nat.zero_add, Nat.add_zero, decide_eq_true_eq, decide_true, decide_false, Nat.reduceEqDiff, Nat.reduceLT, Nat.reduceLeDiff, eq_self, Bool.false_eq_true, Bool.true_eq_false, Bool.not_eq_false', Bool.not_eq_true', ite_not, W_g1 hI, W_g2 hI, W_g3 hI, W_g4 hI, W_g11 hI, W_g12 hI, W_g13 hI, W_r5 hI, W_r6 hI, W_r7 hI, W_r8 hI, W_r9 hI, W_r10 hI, W_a1 hI, W_a2 hI, W_a3 hI, W_a4 hI, W_a6 hI, W_ab hI, B_g0 hI, B_g1 hI, B_g3 hI, B_g4 hI, B_g5 hI, B_g6 hI, B_g7 hI, B_g8 hI, B_g9 hI, B_g10 hI, B_r2 hI, B_aq hI]
  · intro t
    simp -implicitDefEqProofs (disch := omega) only [↓reduceIte, q173_1, q173_4, hX, Nat.lt_irrefl, bd_s, kI_r, kV_r, kL_r, rZ_1, rZ_0, rZ_b, rI_ite, bI_ite, ite_tf, ite_ft, bI0, bI1, bf_ite, nAdd, nMul, nLt, nEq, nEqM, nMEq, nMLt, nLtM, nMLt0, if_true, if_false, Nat.reduceAdd, Nat.reduceMul, Nat.zero_add, Nat.add_zero, decide_eq_true_eq, decide_true, decide_false, Nat.reduceEqDiff, Nat.reduceLT, Nat.reduceLeDiff, eq_self, Bool.false_eq_true, Bool.true_eq_false, Bool.not_eq_false', Bool.not_eq_true', ite_not, W_g1 hI, W_g2 hI, W_g3 hI, W_g4 hI, W_g11 hI, W_g12 hI, W_g13 hI, W_r5 hI, W_r6 hI, W_r7 hI, W_r8 hI, W_r9 hI, W_r10 hI, W_a1 hI, W_a2 hI, W_a3 hI, W_a4 hI, W_a6 hI, W_ab hI, B_g0 hI, B_g1 hI, B_g3 hI, B_g4 hI, B_g5 hI, B_g6 hI, B_g7 hI, B_g8 hI, B_g9 hI, B_g10 hI, B_r2 hI, B_aq hI]
theorem w_lent (hI : iAd ad (7 + 2 * nb)) (Z : OKW nb Y X h s) : dN e (d + 1) 181 [.ref (ad 0)] (wM nb ad X m) = rI (Int32.ofNat (lntN s)) (wM nb ad X m) := by
  obtain ⟨hX, hs1, hn0, hn⟩ := Z.nbE
  refine en181 (W_c0 hI) fun t ht => ?_
  obtain ⟨u, rfl⟩ := fu 1 ht rfl
  rw [q181_0]
  unfold lntN
  rw [hn0]
  have key := lp_up2 (c := 3) (n := nb) (G := fun t k => runL e (dN e d) 181 t 1 [some (.ref (ad 0)), some (.int (Int32.ofNat (cnt (fun k => !decide (bx s k 5 = nM1)) k))), some (.int (Int32.ofNat k))] [] (wM nb ad X m)) (r := rI (Int32.ofNat (cnt (fun k => !decide (bx s k 5 = nM1)) nb)) (wM nb ad X m)) ?_ ?_ u (by omega)
  · simp only [cnt_0] at key
    exact key
  · intro k hk
    obtain ⟨v, wb, hk24⟩ := Z.box hk
    have hg := Z.gon hk
    have hh := Z.hld hk
    have hcn := cnt_le (fun k => !decide (bx s k 5 = nM1)) k
    cases hp : (fun k => !decide (bx s k 5 = nM1)) k with
    | true =>
      refine ⟨2, by omega, fun t => ?_⟩
      rw [cnt_t hp]
      simp only [Bool.not_eq_true', Bool.not_eq_false', decide_eq_false_iff_not, decide_eq_true_eq] at hp
      simp -implicitDefEqProofs (disch := omega) only [↓reduceIte, q181_1, q181_3, hX, hk, hh.1, hh.2, hp, bd_s, kI_r, kV_r, kL_r, rZ_1, rZ_0, rZ_b, rI_ite, bI_ite, ite_tf, ite_ft, bI0, bI1, bf_ite, nAdd, nMul, nLt, nEq, nEqM, nMEq, nMLt, nLtM, nMLt0, if_true, if_false, Nat.reduceAdd, Nat.reduceMul, Nat.zero_add, Nat.add_zero, decide_eq_true_eq, decide_true, decide_false, Nat.reduceEqDiff, Nat.reduceLT, Nat.reduceLeDiff, eq_self, Bool.false_eq_true, Bool.true_eq_false, Bool.not_eq_false', Bool.not_eq_true', ite_not, W_g1 hI, W_g2 hI, W_g3 hI, W_g4 hI, W_g11 hI, W_g12 hI, W_g13 hI, W_r5 hI, W_r6 hI, W_r7 hI, W_r8 hI, W_r9 hI, W_r10 hI, W_a1 hI, W_a2 hI, W_a3 hI, W_a4 hI, W_a6 hI, W_ab hI, B_g0 hI, B_g1 hI, B_g3 hI, B_g4 hI, B_g5 hI, B_g6 hI, B_g7 hI, B_g8 hI, B_g9 hI, B_g10 hI, B_r2 hI, B_aq hI]
    | false =>
      refine ⟨3, by omega, fun t => ?_⟩
      rw [cnt_f hp]
      simp only [Bool.not_eq_true', Bool.not_eq_false', decide_eq_false_iff_not, decide_eq_true_eq] at hp
      simp -implicitDefEqProofs (disch := omega) only [↓reduceIte, q181_1, q181_2, q181_3, hX, hk, hh.1, hh.2, hp, bd_s, kI_r, kV_r, kL_r, rZ_1, rZ_0, rZ_b, rI_ite, bI_ite, ite_tf, ite_ft, bI0, bI1, bf_ite, nAdd, nMul, nLt, nEq, nEqM, nMEq, nMLt, nLtM, nMLt0, if_true, if_false, Nat.reduceAdd, Nat.reduceMul, Nat.zero_add, Nat.add_zero, decide_eq_true_eq, decide_true, decide_false, Nat.reduceEqDiff, Nat.reduceLT, Nat.reduceLeDiff, eq_self, Bool.false_eq_true, Bool.true_eq_false, Bool.not_eq_false', Bool.not_eq_true', ite_not, W_g1 hI, W_g2 hI, W_g3 hI, W_g4 hI, W_g11 hI, W_g12 hI, W_g13 hI, W_r5 hI, W_r6 hI, W_r7 hI, W_r8 hI, W_r9 hI, W_r10 hI, W_a1 hI, W_a2 hI, W_a3 hI, W_a4 hI, W_a6 hI, W_ab hI, B_g0 hI, B_g1 hI, B_g3 hI, B_g4 hI, B_g5 hI, B_g6 hI, B_g7 hI, B_g8 hI, B_g9 hI, B_g10 hI, B_r2 hI, B_aq hI]
  · intro t
    simp -implicitDefEqProofs (disch := omega) only [↓reduceIte, q181_1, q181_4, hX, Nat.lt_irrefl, bd_s, kI_r, kV_r, kL_r, rZ_1, rZ_0, rZ_b, rI_ite, bI_ite, ite_tf, ite_ft, bI0, bI1, bf_ite, nAdd, nMul, nLt, nEq, nEqM, nMEq, nMLt, nLtM, nMLt0, if_true, if_false, Nat.reduceAdd, Nat.reduceMul, Nat.zero_add, Nat.add_zero, decide_eq_true_eq, decide_true, decide_false, Nat.reduceEqDiff, Nat.reduceLT, Nat.reduceLeDiff, eq_self, Bool.false_eq_true, Bool.true_eq_false, Bool.not_eq_false', Bool.not_eq_true', ite_not, W_g1 hI, W_g2 hI, W_g3 hI, W_g4 hI, W_g11 hI, W_g12 hI, W_g13 hI, W_r5 hI, W_r6 hI, W_r7 hI, W_r8 hI, W_r9 hI, W_r10 hI, W_a1 hI, W_a2 hI, W_a3 hI, W_a4 hI, W_a6 hI, W_ab hI, B_g0 hI, B_g1 hI, B_g3 hI, B_g4 hI, B_g5 hI, B_g6 hI, B_g7 hI, B_g8 hI, B_g9 hI, B_g10 hI, B_r2 hI, B_aq hI]
theorem w_loans (hI : iAd ad (7 + 2 * nb)) (Z : OKW nb Y X h s) {x : Int32} : dN e (d + 1) 180 [.ref (ad 0), .int x] (wM nb ad X m) = rI (Int32.ofNat (lonN s x)) (wM nb ad X m) := by
  obtain ⟨hX, hs1, hn0, hn⟩ := Z.nbE
  refine en180 (W_c0 hI) fun t ht => ?_
  obtain ⟨u, rfl⟩ := fu 1 ht rfl
  rw [q180_0]
  unfold lonN
  rw [hn0]
  have key := lp_up2 (c := 3) (n := nb) (G := fun t k => runL e (dN e d) 180 t 1 [some (.ref (ad 0)), some (.int (x)), some (.int (Int32.ofNat (cnt (fun k => decide (bx s k 5 = x)) k))), some (.int (Int32.ofNat k))] [] (wM nb ad X m)) (r := rI (Int32.ofNat (cnt (fun k => decide (bx s k 5 = x)) nb)) (wM nb ad X m)) ?_ ?_ u (by omega)
  · simp only [cnt_0] at key
    exact key
  · intro k hk
    obtain ⟨v, wb, hk24⟩ := Z.box hk
    have hg := Z.gon hk
    have hh := Z.hld hk
    have hcn := cnt_le (fun k => decide (bx s k 5 = x)) k
    cases hp : (fun k => decide (bx s k 5 = x)) k with
    | true =>
      refine ⟨2, by omega, fun t => ?_⟩
      rw [cnt_t hp]
      simp only [decide_eq_false_iff_not, decide_eq_true_eq] at hp
      simp -implicitDefEqProofs (disch := omega) only [↓reduceIte, q180_1, q180_3, hX, hk, hh.1, hp, bd_s, kI_r, kV_r, kL_r, rZ_1, rZ_0, rZ_b, rI_ite, bI_ite, ite_tf, ite_ft, bI0, bI1, bf_ite, nAdd, nMul, nLt, nEq, nEqM, nMEq, nMLt, nLtM, nMLt0, if_true, if_false, Nat.reduceAdd, Nat.reduceMul, Nat.zero_add, Nat.add_zero, decide_eq_true_eq, decide_true, decide_false, Nat.reduceEqDiff, Nat.reduceLT, Nat.reduceLeDiff, eq_self, Bool.false_eq_true, Bool.true_eq_false, Bool.not_eq_false', Bool.not_eq_true', ite_not, W_g1 hI, W_g2 hI, W_g3 hI, W_g4 hI, W_g11 hI, W_g12 hI, W_g13 hI, W_r5 hI, W_r6 hI, W_r7 hI, W_r8 hI, W_r9 hI, W_r10 hI, W_a1 hI, W_a2 hI, W_a3 hI, W_a4 hI, W_a6 hI, W_ab hI, B_g0 hI, B_g1 hI, B_g3 hI, B_g4 hI, B_g5 hI, B_g6 hI, B_g7 hI, B_g8 hI, B_g9 hI, B_g10 hI, B_r2 hI, B_aq hI]
    | false =>
      refine ⟨3, by omega, fun t => ?_⟩
      rw [cnt_f hp]
      simp only [decide_eq_false_iff_not, decide_eq_true_eq] at hp
      simp -implicitDefEqProofs (disch := omega) only [↓reduceIte, q180_1, q180_2, q180_3, hX, hk, hh.1, hp, bd_s, kI_r, kV_r, kL_r, rZ_1, rZ_0, rZ_b, rI_ite, bI_ite, ite_tf, ite_ft, bI0, bI1, bf_ite, nAdd, nMul, nLt, nEq, nEqM, nMEq, nMLt, nLtM, nMLt0, if_true, if_false, Nat.reduceAdd, Nat.reduceMul, Nat.zero_add, Nat.add_zero, decide_eq_true_eq, decide_true, decide_false, Nat.reduceEqDiff, Nat.reduceLT, Nat.reduceLeDiff, eq_self, Bool.false_eq_true, Bool.true_eq_false, Bool.not_eq_false', Bool.not_eq_true', ite_not, W_g1 hI, W_g2 hI, W_g3 hI, W_g4 hI, W_g11 hI, W_g12 hI, W_g13 hI, W_r5 hI, W_r6 hI, W_r7 hI, W_r8 hI, W_r9 hI, W_r10 hI, W_a1 hI, W_a2 hI, W_a3 hI, W_a4 hI, W_a6 hI, W_ab hI, B_g0 hI, B_g1 hI, B_g3 hI, B_g4 hI, B_g5 hI, B_g6 hI, B_g7 hI, B_g8 hI, B_g9 hI, B_g10 hI, B_r2 hI, B_aq hI]
  · intro t
    simp -implicitDefEqProofs (disch := omega) only [↓reduceIte, q180_1, q180_4, hX, Nat.lt_irrefl, bd_s, kI_r, kV_r, kL_r, rZ_1, rZ_0, rZ_b, rI_ite, bI_ite, ite_tf, ite_ft, bI0, bI1, bf_ite, nAdd, nMul, nLt, nEq, nEqM, nMEq, nMLt, nLtM, nMLt0, if_true, if_false, Nat.reduceAdd, Nat.reduceMul, Nat.zero_add, Nat.add_zero, decide_eq_true_eq, decide_true, decide_false, Nat.reduceEqDiff, Nat.reduceLT, Nat.reduceLeDiff, eq_self, Bool.false_eq_true, Bool.true_eq_false, Bool.not_eq_false', Bool.not_eq_true', ite_not, W_g1 hI, W_g2 hI, W_g3 hI, W_g4 hI, W_g11 hI, W_g12 hI, W_g13 hI, W_r5 hI, W_r6 hI, W_r7 hI, W_r8 hI, W_r9 hI, W_r10 hI, W_a1 hI, W_a2 hI, W_a3 hI, W_a4 hI, W_a6 hI, W_ab hI, B_g0 hI, B_g1 hI, B_g3 hI, B_g4 hI, B_g5 hI, B_g6 hI, B_g7 hI, B_g8 hI, B_g9 hI, B_g10 hI, B_r2 hI, B_aq hI]
theorem w_room (hI : iAd ad (7 + 2 * nb)) (Z : OKW nb Y X h s) : dN e (d + 2) 174 [.ref (ad 0)] (wM nb ad X m) = rI (Int32.ofNat (mkN h) - Int32.ofNat nb + Int32.ofNat (cnt (gonB s) (nbS s))) (wM nb ad X m) := by
  obtain ⟨hX, hs1, hn0, hn⟩ := Z.nbE
  obtain ⟨S, P, x1, x2, s1, s2, p1, p2, u1, u2, u3, u4, mk, mk8⟩ := Z.sp
  have hg := w_gone (e := e) (d := d) (m := m) hI Z
  rw [mk]
  refine en174 (W_c0 hI) fun t ht => ?_
  obtain ⟨u, rfl⟩ := fu 19 ht rfl
  simp -implicitDefEqProofs (disch := omega) only [↓reduceIte, q174_0, x1, x2, hX, hg, bd_s, kI_r, kV_r, kL_r, rZ_1, rZ_0, rZ_b, rI_ite, bI_ite, ite_tf, ite_ft, bI0, bI1, bf_ite, nMul, nLt, nEq, nEqM, nMEq, nMLt, nLtM, nMLt0, if_true, if_false, Nat.reduceAdd, Nat.reduceMul, Nat.zero_add, Nat.add_zero, decide_eq_true_eq, decide_true, decide_false, Nat.reduceEqDiff, Nat.reduceLT, Nat.reduceLeDiff, eq_self, Bool.false_eq_true, Bool.true_eq_false, Bool.not_eq_false', Bool.not_eq_true', ite_not, W_g1 hI, W_g2 hI, W_g3 hI, W_g4 hI, W_g11 hI, W_g12 hI, W_g13 hI, W_r5 hI, W_r6 hI, W_r7 hI, W_r8 hI, W_r9 hI, W_r10 hI, W_a1 hI, W_a2 hI, W_a3 hI, W_a4 hI, W_a6 hI, W_ab hI, B_g0 hI, B_g1 hI, B_g3 hI, B_g4 hI, B_g5 hI, B_g6 hI, B_g7 hI, B_g8 hI, B_g9 hI, B_g10 hI, B_r2 hI, B_aq hI]
theorem w_due (hI : iAd ad (7 + 2 * nb)) (Z : OKW nb Y X h s) {k : Nat} (hk : k < nb) : dN e (d + 1) 175 [.ref (ad 0), .ref (ad (7 + 2 * k))] (wM nb ad X m) = rI (dueS s h k) (wM nb ad X m) := by
  obtain ⟨v, wb, hk24⟩ := Z.box hk
  obtain ⟨v0, v1, v2, v3, v5, v6, v8, v7, vm, vq⟩ := v
  obtain ⟨c, c0, c1, c2, c3, c4, c5, c6, c7, c8⟩ := Z.cls hk
  refine en175 (W_c0 hI) fun t ht => ?_
  obtain ⟨u, rfl⟩ := fu 19 ht rfl
  simp -implicitDefEqProofs (disch := omega) only [↓reduceIte, q175_0, v1, v2, c0, c5, bd_s, kI_r, kV_r, kL_r, rZ_1, rZ_0, rZ_b, rI_ite, bI_ite, ite_tf, ite_ft, bI0, bI1, bf_ite, nAdd, nMul, nLt, nEq, nEqM, nMEq, nMLt, nLtM, nMLt0, if_true, if_false, Nat.reduceAdd, Nat.reduceMul, Nat.zero_add, Nat.add_zero, decide_eq_true_eq, decide_true, decide_false, Nat.reduceEqDiff, Nat.reduceLT, Nat.reduceLeDiff, eq_self, Bool.false_eq_true, Bool.true_eq_false, Bool.not_eq_false', Bool.not_eq_true', ite_not, W_g1 hI, W_g2 hI, W_g3 hI, W_g4 hI, W_g11 hI, W_g12 hI, W_g13 hI, W_r5 hI, W_r6 hI, W_r7 hI, W_r8 hI, W_r9 hI, W_r10 hI, W_a1 hI, W_a2 hI, W_a3 hI, W_a4 hI, W_a6 hI, W_ab hI, B_g0 hI, B_g1 hI, B_g3 hI, B_g4 hI, B_g5 hI, B_g6 hI, B_g7 hI, B_g8 hI, B_g9 hI, B_g10 hI, B_r2 hI, B_aq hI]
  unfold dueS
  rw [c2]
theorem w_bars (hI : iAd ad (7 + 2 * nb)) (Z : OKW nb Y X h s) {k : Nat} (hk : k < nb) : dN e (d + 2) 176 [.ref (ad 0), .ref (ad (7 + 2 * k))] (wM nb ad X m) = rI (hinS s h k) (wM nb ad X m) := by
  obtain ⟨v, wb, hk24⟩ := Z.box hk
  obtain ⟨v0, v1, v2, v3, v5, v6, v8, v7, vm, vq⟩ := v
  obtain ⟨c, c0, c1, c2, c3, c4, c5, c6, c7, c8⟩ := Z.cls hk
  have hy := Z.yr
  have hg := Z.gon hk
  have hh := Z.hld hk
  refine en176 (W_c0 hI) fun t ht => ?_
  obtain ⟨u, rfl⟩ := fu 19 ht rfl
  simp -implicitDefEqProofs (disch := omega) only [↓reduceIte, q176_0, q176_1, q176_2, q176_3, q176_4, q176_5, q176_6, hg.1, c0, c7, w_due hI Z hk, v3, hy, hh.1, hh.2, hinS, selB, bd_s, kI_r, kV_r, kL_r, rZ_1, rZ_0, rZ_b, rI_ite, bI_ite, ite_tf, ite_ft, bI0, bI1, bf_ite, nAdd, nMul, nLt, nEq, nEqM, nMEq, nMLt, nLtM, nMLt0, if_true, if_false, Nat.reduceAdd, Nat.reduceMul, Nat.zero_add, Nat.add_zero, decide_eq_true_eq, decide_true, decide_false, Nat.reduceEqDiff, Nat.reduceLT, Nat.reduceLeDiff, eq_self, Bool.false_eq_true, Bool.true_eq_false, Bool.not_eq_false', Bool.not_eq_true', ite_not, W_g1 hI, W_g2 hI, W_g3 hI, W_g4 hI, W_g11 hI, W_g12 hI, W_g13 hI, W_r5 hI, W_r6 hI, W_r7 hI, W_r8 hI, W_r9 hI, W_r10 hI, W_a1 hI, W_a2 hI, W_a3 hI, W_a4 hI, W_a6 hI, W_ab hI, B_g0 hI, B_g1 hI, B_g3 hI, B_g4 hI, B_g5 hI, B_g6 hI, B_g7 hI, B_g8 hI, B_g9 hI, B_g10 hI, B_r2 hI, B_aq hI]
theorem w_waits (hI : iAd ad (7 + 2 * nb)) (Z : OKW nb Y X h s) {k : Nat} (hk : k < nb) {x : Int32} : dN e (d + 1) 166 [.ref (ad (7 + 2 * k)), .int x] (wM nb ad X m) = rI (fI (nN (bx s k 8)) fun i => decide (bx s k (9 + i) = x)) (wM nb ad X m) := by
  obtain ⟨w, w0, w1, w2, w3, w4, w5⟩ := Z.wt hk
  refine en166 (B_c hI hk) fun t ht => ?_
  obtain ⟨u, rfl⟩ := fu 1 ht rfl
  rw [q166_0]
  rw [w2]
  refine lp_fI (c := 2) (n := w) (G := fun t i => runL e (dN e d) 166 t 1 [some (.ref (ad (7 + 2 * k))), some (.int x), some (.int (Int32.ofNat i))] [] (wM nb ad X m)) ?_ ?_ ?_ u (by omega)
  · intro t i hi hp
    have hp : ¬ bx s k (9 + i) = x := of_decide_eq_false hp
    simp -implicitDefEqProofs (disch := omega) only [↓reduceIte, q166_1, q166_2, w0, hi, w4 i hi, hp, bd_s, kI_r, kV_r, kL_r, rZ_1, rZ_0, rZ_b, rI_ite, bI_ite, ite_tf, ite_ft, bI0, bI1, bf_ite, nAdd, nMul, nLt, nEq, nEqM, nMEq, nMLt, nLtM, nMLt0, if_true, if_false, Nat.reduceAdd, Nat.reduceMul, Nat.zero_add, Nat.add_zero, decide_eq_true_eq, decide_true, decide_false, Nat.reduceEqDiff, Nat.reduceLT, Nat.reduceLeDiff, eq_self, Bool.false_eq_true, Bool.true_eq_false, Bool.not_eq_false', Bool.not_eq_true', ite_not, W_g1 hI, W_g2 hI, W_g3 hI, W_g4 hI, W_g11 hI, W_g12 hI, W_g13 hI, W_r5 hI, W_r6 hI, W_r7 hI, W_r8 hI, W_r9 hI, W_r10 hI, W_a1 hI, W_a2 hI, W_a3 hI, W_a4 hI, W_a6 hI, W_ab hI, B_g0 hI, B_g1 hI, B_g3 hI, B_g4 hI, B_g5 hI, B_g6 hI, B_g7 hI, B_g8 hI, B_g9 hI, B_g10 hI, B_r2 hI, B_aq hI]
  · intro t i hi hp
    have hp : bx s k (9 + i) = x := of_decide_eq_true hp
    simp -implicitDefEqProofs (disch := omega) only [↓reduceIte, q166_1, q166_2, w0, hi, w4 i hi, hp, bd_s, kI_r, kV_r, kL_r, rZ_1, rZ_0, rZ_b, rI_ite, bI_ite, ite_tf, ite_ft, bI0, bI1, bf_ite, nAdd, nMul, nLt, nEq, nEqM, nMEq, nMLt, nLtM, nMLt0, if_true, if_false, Nat.reduceAdd, Nat.reduceMul, Nat.zero_add, Nat.add_zero, decide_eq_true_eq, decide_true, decide_false, Nat.reduceEqDiff, Nat.reduceLT, Nat.reduceLeDiff, eq_self, Bool.false_eq_true, Bool.true_eq_false, Bool.not_eq_false', Bool.not_eq_true', ite_not, W_g1 hI, W_g2 hI, W_g3 hI, W_g4 hI, W_g11 hI, W_g12 hI, W_g13 hI, W_r5 hI, W_r6 hI, W_r7 hI, W_r8 hI, W_r9 hI, W_r10 hI, W_a1 hI, W_a2 hI, W_a3 hI, W_a4 hI, W_a6 hI, W_ab hI, B_g0 hI, B_g1 hI, B_g3 hI, B_g4 hI, B_g5 hI, B_g6 hI, B_g7 hI, B_g8 hI, B_g9 hI, B_g10 hI, B_r2 hI, B_aq hI]
  · intro t
    simp -implicitDefEqProofs (disch := omega) only [↓reduceIte, q166_1, q166_3, w0, Nat.lt_irrefl, bd_s, kI_r, kV_r, kL_r, rZ_1, rZ_0, rZ_b, rI_ite, bI_ite, ite_tf, ite_ft, bI0, bI1, bf_ite, nAdd, nMul, nLt, nEq, nEqM, nMEq, nMLt, nLtM, nMLt0, if_true, if_false, Nat.reduceAdd, Nat.reduceMul, Nat.zero_add, Nat.add_zero, decide_eq_true_eq, decide_true, decide_false, Nat.reduceEqDiff, Nat.reduceLT, Nat.reduceLeDiff, eq_self, Bool.false_eq_true, Bool.true_eq_false, Bool.not_eq_false', Bool.not_eq_true', ite_not, W_g1 hI, W_g2 hI, W_g3 hI, W_g4 hI, W_g11 hI, W_g12 hI, W_g13 hI, W_r5 hI, W_r6 hI, W_r7 hI, W_r8 hI, W_r9 hI, W_r10 hI, W_a1 hI, W_a2 hI, W_a3 hI, W_a4 hI, W_a6 hI, W_ab hI, B_g0 hI, B_g1 hI, B_g3 hI, B_g4 hI, B_g5 hI, B_g6 hI, B_g7 hI, B_g8 hI, B_g9 hI, B_g10 hI, B_r2 hI, B_aq hI]
theorem w_bar (hI : iAd ad (7 + 2 * nb)) (Z : OKW nb Y X h s) {k : Nat} (hk : k < nb) {x : Int32} : dN e (d + 2) 182 [.ref (ad 0), .int x, .int (Int32.ofNat k)] (wM nb ad X m) = rI (obsS s h x k) (wM nb ad X m) := by
  obtain ⟨v, wb, hk24⟩ := Z.box hk
  obtain ⟨v0, v1, v2, v3, v5, v6, v8, v7, vm, vq⟩ := v
  obtain ⟨c, c0, c1, c2, c3, c4, c5, c6, c7, c8⟩ := Z.cls hk
  have hy := Z.yr
  have hg := Z.gon hk
  obtain ⟨w, w0, w1, w2, w3, w4, w5⟩ := Z.wt hk
  have hwt := w_waits (e := e) (d := d) (m := m) hI Z hk (x := x)
  have hw9 : (fI (nN (bx s k 8)) (fun i => decide (bx s k (9 + i) = x)) < Int32.ofNat 0) = (wtB s x k = false) := by
    unfold wtB fI anyB
    cases hq : fnd (nN (bx s k 8)) fun i => decide (bx s k (9 + i) = x) with
    | none => show (nM1 < Int32.ofNat 0) = ((none : Option Nat).isSome = false); rw [nMLt (by omega)]; simp
    | some z =>
      have := (fnd_some hq).1
      show (Int32.ofNat z < Int32.ofNat 0) = ((some z).isSome = false)
      rw [nLt (by omega) (by omega)]; simp
  have hw3 : (if bx s k 8 = Int32.ofNat 3 then Int32.ofNat 5 else Int32.ofNat 0) = (if 2 < w then Int32.ofNat 5 else Int32.ofNat 0) := by
    rw [w1]
    simp only [nEq (show w < 2147483648 by omega) (show 3 < 2147483648 by omega)]
    by_cases h3 : w = 3
    · rw [if_pos h3, if_pos (by omega)]
    · rw [if_neg h3, if_neg (by omega)]
  unfold obsS
  rw [hw3, c2]
  refine en182 (W_c0 hI) fun t ht => ?_
  obtain ⟨u, rfl⟩ := fu 19 ht rfl
  simp -implicitDefEqProofs (disch := omega) only [↓reduceIte, q182_0, q182_1, q182_2, q182_3, q182_4, q182_5, q182_6, q182_7, hg.1, v3, hy, v1, c0, c6, v5, hwt, hw9, w0, selB, bd_s, kI_r, kV_r, kL_r, rZ_1, rZ_0, rZ_b, rI_ite, bI_ite, ite_tf, ite_ft, bI0, bI1, bf_ite, nAdd, nMul, nLt, nEq, nEqM, nMEq, nMLt, nLtM, nMLt0, if_true, if_false, Nat.reduceAdd, Nat.reduceMul, Nat.zero_add, Nat.add_zero, decide_eq_true_eq, decide_true, decide_false, Nat.reduceEqDiff, Nat.reduceLT, Nat.reduceLeDiff, eq_self, Bool.false_eq_true, Bool.true_eq_false, Bool.not_eq_false', Bool.not_eq_true', ite_not, W_g1 hI, W_g2 hI, W_g3 hI, W_g4 hI, W_g11 hI, W_g12 hI, W_g13 hI, W_r5 hI, W_r6 hI, W_r7 hI, W_r8 hI, W_r9 hI, W_r10 hI, W_a1 hI, W_a2 hI, W_a3 hI, W_a4 hI, W_a6 hI, W_ab hI, B_g0 hI, B_g1 hI, B_g3 hI, B_g4 hI, B_g5 hI, B_g6 hI, B_g7 hI, B_g8 hI, B_g9 hI, B_g10 hI, B_r2 hI, B_aq hI]
theorem w_listed (hI : iAd ad (7 + 2 * nb)) (Z : OKW nb Y X h s) {x : Int32} : dN e (d + 1) 178 [.ref (ad 0), .int x] (wM nb ad X m) = rI (fI (nlS s) fun k => decide (s (3 + k) = x)) (wM nb ad X m) := by
  obtain ⟨n, hl, hl0, hl1⟩ := Z.nl
  have hls : ∀ k, k < n → X 6 k = s (3 + k) := fun k hk => Z.2.1.2.2.2.2.2 k (by omega)
  refine en178 (W_c0 hI) fun t ht => ?_
  obtain ⟨u, rfl⟩ := fu 1 ht rfl
  rw [q178_0]
  rw [hl0]
  refine lp_fI (c := 2) (n := n) (G := fun t k => runL e (dN e d) 178 t 1 [some (.ref (ad 0)), some (.int x), some (.int (Int32.ofNat k))] [] (wM nb ad X m)) ?_ ?_ ?_ u (by omega)
  · intro t k hk hp
    have hp : ¬ s (3 + k) = x := of_decide_eq_false hp
    simp -implicitDefEqProofs (disch := omega) only [↓reduceIte, q178_1, q178_2, hl, hk, hls k hk, hp, bd_s, kI_r, kV_r, kL_r, rZ_1, rZ_0, rZ_b, rI_ite, bI_ite, ite_tf, ite_ft, bI0, bI1, bf_ite, nAdd, nMul, nLt, nEq, nEqM, nMEq, nMLt, nLtM, nMLt0, if_true, if_false, Nat.reduceAdd, Nat.reduceMul, Nat.zero_add, Nat.add_zero, decide_eq_true_eq, decide_true, decide_false, Nat.reduceEqDiff, Nat.reduceLT, Nat.reduceLeDiff, eq_self, Bool.false_eq_true, Bool.true_eq_false, Bool.not_eq_false', Bool.not_eq_true', ite_not, W_g1 hI, W_g2 hI, W_g3 hI, W_g4 hI, W_g11 hI, W_g12 hI, W_g13 hI, W_r5 hI, W_r6 hI, W_r7 hI, W_r8 hI, W_r9 hI, W_r10 hI, W_a1 hI, W_a2 hI, W_a3 hI, W_a4 hI, W_a6 hI, W_ab hI, B_g0 hI, B_g1 hI, B_g3 hI, B_g4 hI, B_g5 hI, B_g6 hI, B_g7 hI, B_g8 hI, B_g9 hI, B_g10 hI, B_r2 hI, B_aq hI]
  · intro t k hk hp
    have hp : s (3 + k) = x := of_decide_eq_true hp
    simp -implicitDefEqProofs (disch := omega) only [↓reduceIte, q178_1, q178_2, hl, hk, hls k hk, hp, bd_s, kI_r, kV_r, kL_r, rZ_1, rZ_0, rZ_b, rI_ite, bI_ite, ite_tf, ite_ft, bI0, bI1, bf_ite, nAdd, nMul, nLt, nEq, nEqM, nMEq, nMLt, nLtM, nMLt0, if_true, if_false, Nat.reduceAdd, Nat.reduceMul, Nat.zero_add, Nat.add_zero, decide_eq_true_eq, decide_true, decide_false, Nat.reduceEqDiff, Nat.reduceLT, Nat.reduceLeDiff, eq_self, Bool.false_eq_true, Bool.true_eq_false, Bool.not_eq_false', Bool.not_eq_true', ite_not, W_g1 hI, W_g2 hI, W_g3 hI, W_g4 hI, W_g11 hI, W_g12 hI, W_g13 hI, W_r5 hI, W_r6 hI, W_r7 hI, W_r8 hI, W_r9 hI, W_r10 hI, W_a1 hI, W_a2 hI, W_a3 hI, W_a4 hI, W_a6 hI, W_ab hI, B_g0 hI, B_g1 hI, B_g3 hI, B_g4 hI, B_g5 hI, B_g6 hI, B_g7 hI, B_g8 hI, B_g9 hI, B_g10 hI, B_r2 hI, B_aq hI]
  · intro t
    simp -implicitDefEqProofs (disch := omega) only [↓reduceIte, q178_1, q178_3, hl, Nat.lt_irrefl, bd_s, kI_r, kV_r, kL_r, rZ_1, rZ_0, rZ_b, rI_ite, bI_ite, ite_tf, ite_ft, bI0, bI1, bf_ite, nAdd, nMul, nLt, nEq, nEqM, nMEq, nMLt, nLtM, nMLt0, if_true, if_false, Nat.reduceAdd, Nat.reduceMul, Nat.zero_add, Nat.add_zero, decide_eq_true_eq, decide_true, decide_false, Nat.reduceEqDiff, Nat.reduceLT, Nat.reduceLeDiff, eq_self, Bool.false_eq_true, Bool.true_eq_false, Bool.not_eq_false', Bool.not_eq_true', ite_not, W_g1 hI, W_g2 hI, W_g3 hI, W_g4 hI, W_g11 hI, W_g12 hI, W_g13 hI, W_r5 hI, W_r6 hI, W_r7 hI, W_r8 hI, W_r9 hI, W_r10 hI, W_a1 hI, W_a2 hI, W_a3 hI, W_a4 hI, W_a6 hI, W_ab hI, B_g0 hI, B_g1 hI, B_g3 hI, B_g4 hI, B_g5 hI, B_g6 hI, B_g7 hI, B_g8 hI, B_g9 hI, B_g10 hI, B_r2 hI, B_aq hI]
end
end

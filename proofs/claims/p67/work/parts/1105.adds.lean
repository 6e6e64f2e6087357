/-! ===== the World as one state of the memory; a new box ===== -/
noncomputable section
/-- the World's cells stand for the rows s, h -/
def WST (e : dEnv) (nb Y : Nat) (ad : Nat → Nat) (h s : sV) (m : dMem) : Prop := iAd ad (7 + 2 * nb) ∧ oAd e nb ad ∧ (∀ i, i < 7 + 2 * nb → ad i < m.2.1) ∧ SIN s ∧ INV h s ∧ ∃ X, hA (TW nb) (7 + 2 * nb) ad X m ∧ OKW nb Y X h s
/-- all that is there already and is no cell of the World's is as it was; c cells and z slots are new -/
def fW (nb : Nat) (ad : Nat → Nat) (m m' : dMem) (c z : Nat) : Prop := (∀ q, q < m.2.1 → (∀ i, i < 7 + 2 * nb → ad i ≠ q) → m'.1 q = m.1 q) ∧ m'.2 = (m.2.1 + c, m.2.2 + z)
section
variable {e : dEnv} {d nb Y : Nat} {ad : Nat → Nat} {X : wX} {h s : sV} {m : dMem}
theorem wM_self (Z : hA (TW nb) (7 + 2 * nb) ad X m) : wM nb ad X m = m := ovA_self Z
theorem fW.rf : fW nb ad m m 0 0 := ⟨fun _ _ _ => rfl, rfl⟩
theorem fW.ov {X' : wX} : fW nb ad m (wM nb ad X' m) 0 0 := ⟨fun q _ hq => ovA_out hq, rfl⟩
theorem fW.ovc {X' : wX} {m1 : dMem} {c z : Nat} (F : fW nb ad m m1 c z) : fW nb ad m (wM nb ad X' m1) c z := ⟨fun q h1 hq => (ovA_out hq).trans (F.1 q h1 hq), F.2⟩
theorem fW.aU {u : Nat} {U : sV} (hu : m.2.1 = u) : fW nb ad m (aU (m.1, m.2.1 + 1, m.2.2 + 24) u U) 1 24 := ⟨fun q h1 _ => if_neg (by omega), rfl⟩
theorem WST.ov {Y' : Nat} {s' : sV} {X' : wX} {m1 : dMem} {c z : Nat} (Z : WST e nb Y ad h s m) (V1 : SIN s') (V2 : INV h s') (hm : m1.2 = (m.2.1 + c, m.2.2 + z)) (Z' : OKW nb Y' X' h s') : WST e nb Y' ad h s' (wM nb ad X' m1) := by
  obtain ⟨hI, hE, hb, -, -, -⟩ := Z
  refine ⟨hI, hE, fun i hi => ?_, V1, V2, X', hA_ovA hI, Z'⟩
  show ad i < m1.2.1
  rw [hm]
  have := hb i hi
  show ad i < m.2.1 + c
  omega
/-- other cells change -/
theorem WST.mem {m' : dMem} (Z : WST e nb Y ad h s m) (he : ∀ i, i < 7 + 2 * nb → m'.1 (ad i) = m.1 (ad i)) (hm : m.2.1 ≤ m'.2.1) : WST e nb Y ad h s m' := by
  obtain ⟨hI, hE, hb, V1, V2, X, hX, Z'⟩ := Z
  exact ⟨hI, hE, fun i hi => by have := hb i hi; omega, V1, V2, X, hA_mem hX he, Z'⟩
theorem WST.nbs (Z : WST e nb Y ad h s m) : nbS s = nb ∧ nb ≤ 24 ∧ s 1 = Int32.ofNat nb := by
  obtain ⟨hI, hE, hb, V1, V2, X, hX, Z'⟩ := Z
  exact ⟨Z'.nbE.2.2.1, Z'.nbE.2.2.2, Z'.nbE.2.1⟩
theorem WST.ws (Z : WST e nb Y ad h s m) : WS Y h s ∧ WH h := by
  obtain ⟨hI, hE, hb, V1, V2, X, hX, Z'⟩ := Z
  exact ⟨Z'.2.2.1, Z'.2.2.2⟩
theorem WST.inv (Z : WST e nb Y ad h s m) : INV h s := Z.2.2.2.2.1
/-- what reads alone -/
theorem WST.rd {P : dMem → Prop} (Z : WST e nb Y ad h s m) (hP : ∀ X, iAd ad (7 + 2 * nb) → OKW nb Y X h s → P (wM nb ad X m)) : P m := by
  obtain ⟨hI, hE, hb, V1, V2, X, hX, Z'⟩ := Z
  have := hP X hI Z'
  rwa [wM_self hX] at this
theorem v_at (Z : WST e nb Y ad h s m) {i j : Nat} (hi : i < nN (h 0)) (hj : j < nN (h 1)) : dN e (d + 1) 171 [.ref (ad 0), .int (Int32.ofNat i), .int (Int32.ofNat j)] m = rI (boxOnS s (Int32.ofNat (i * nN (h 1) + j))) m := Z.rd (P := fun m => dN e (d + 1) 171 [.ref (ad 0), .int (Int32.ofNat i), .int (Int32.ofNat j)] m = rI (boxOnS s (Int32.ofNat (i * nN (h 1) + j))) m) (fun X hI Z' => w_at hI Z' hi hj)
theorem v_free (Z : WST e nb Y ad h s m) : dN e (d + 2) 172 [.ref (ad 0)] m = rI (fstS s h) m := Z.rd (P := fun m => dN e (d + 2) 172 [.ref (ad 0)] m = rI (fstS s h) m) (fun X hI Z' => w_free hI Z')
theorem v_gone (Z : WST e nb Y ad h s m) : dN e (d + 1) 173 [.ref (ad 0)] m = rI (Int32.ofNat (cnt (gonB s) (nbS s))) m := Z.rd (P := fun m => dN e (d + 1) 173 [.ref (ad 0)] m = rI (Int32.ofNat (cnt (gonB s) (nbS s))) m) (fun X hI Z' => w_gone hI Z')
theorem v_room (Z : WST e nb Y ad h s m) : dN e (d + 2) 174 [.ref (ad 0)] m = rI (Int32.ofNat (freS s h)) m := Z.rd (P := fun m => dN e (d + 2) 174 [.ref (ad 0)] m = rI (Int32.ofNat (freS s h)) m) (fun X hI Z' => by
  have h1 := w_room (e := e) (d := d) (m := m) hI Z'
  have hmk := (WH_mk Z'.2.2.2).2.2
  have h2 := room_n Z.inv Z'.2.2.1 hmk
  rw [Z'.1] at h2
  rw [h1, Z'.1, h2])
theorem v_due (Z : WST e nb Y ad h s m) {k : Nat} (hk : k < nb) : dN e (d + 1) 175 [.ref (ad 0), .ref (ad (7 + 2 * k))] m = rI (dueS s h k) m := Z.rd (P := fun m => dN e (d + 1) 175 [.ref (ad 0), .ref (ad (7 + 2 * k))] m = rI (dueS s h k) m) (fun X hI Z' => w_due hI Z' hk)
theorem v_bars (Z : WST e nb Y ad h s m) {k : Nat} (hk : k < nb) : dN e (d + 2) 176 [.ref (ad 0), .ref (ad (7 + 2 * k))] m = rI (hinS s h k) m := Z.rd (P := fun m => dN e (d + 2) 176 [.ref (ad 0), .ref (ad (7 + 2 * k))] m = rI (hinS s h k) m) (fun X hI Z' => w_bars hI Z' hk)
theorem v_bar (Z : WST e nb Y ad h s m) {k : Nat} {x : Int32} (hk : k < nb) : dN e (d + 2) 182 [.ref (ad 0), .int x, .int (Int32.ofNat k)] m = rI (obsS s h x k) m := Z.rd (P := fun m => dN e (d + 2) 182 [.ref (ad 0), .int x, .int (Int32.ofNat k)] m = rI (obsS s h x k) m) (fun X hI Z' => w_bar hI Z' hk)
theorem v_loans (Z : WST e nb Y ad h s m) {x : Int32} : dN e (d + 1) 180 [.ref (ad 0), .int x] m = rI (Int32.ofNat (lonN s x)) m := Z.rd (P := fun m => dN e (d + 1) 180 [.ref (ad 0), .int x] m = rI (Int32.ofNat (lonN s x)) m) (fun X hI Z' => w_loans hI Z')
theorem v_lent (Z : WST e nb Y ad h s m) : dN e (d + 1) 181 [.ref (ad 0)] m = rI (Int32.ofNat (lntN s)) m := Z.rd (P := fun m => dN e (d + 1) 181 [.ref (ad 0)] m = rI (Int32.ofNat (lntN s)) m) (fun X hI Z' => w_lent hI Z')
theorem v_listed (Z : WST e nb Y ad h s m) {x : Int32} : dN e (d + 1) 178 [.ref (ad 0), .int x] m = rI (fI (nlS s) fun k => decide (s (3 + k) = x)) m := Z.rd (P := fun m => dN e (d + 1) 178 [.ref (ad 0), .int x] m = rI (fI (nlS s) fun k => decide (s (3 + k) = x)) m) (fun X hI Z' => w_listed hI Z')
/-- what changes numbers alone -/
theorem WST.ch {Y' : Nat} {s' : sV} {v : Option Value ⊕ Nat} {run : dMem → Option dRes} (Z : WST e nb Y ad h s m) (V1 : SIN s') (V2 : INV h s') (hP : ∀ X, iAd ad (7 + 2 * nb) → oAd e nb ad → OKW nb Y X h s → ∃ X', run (wM nb ad X m) = some (v, wM nb ad X' m) ∧ OKW nb Y' X' h s') : ∃ m', run m = some (v, m') ∧ WST e nb Y' ad h s' m' ∧ fW nb ad m m' 0 0 := by
  have Z0 := Z
  obtain ⟨hI, hE, hb, -, -, X, hX, Z'⟩ := Z
  obtain ⟨X', g1, g2⟩ := hP X hI hE Z'
  rw [wM_self hX] at g1
  exact ⟨_, g1, Z0.ov V1 V2 (c := 0) (z := 0) rfl g2, fW.ov⟩
theorem v_serves (Z : WST e nb Y ad h s m) {k : Nat} (hk : k < nb) : ∃ m', dN e (d + 2) 185 [.ref (ad 0), .ref (ad (7 + 2 * k))] m = some (.inl none, m') ∧ WST e nb Y ad h (srvS s h k) m' ∧ fW nb ad m m' 0 0 := by
  obtain ⟨W, H⟩ := Z.ws
  have hk' : k < nbS s := by rw [Z.nbs.1]; exact hk
  exact Z.ch (SIN_srv Z.2.2.2.1 W hk') (INV_srv Z.inv W H hk') (fun X hI hE Z' => w_serves hI hE Z' hk)
theorem v_requests (Z : WST e nb Y ad h s m) {k r : Nat} (hk : k < nb) (hr : r < nN (h 3)) (ho : obsS s h (Int32.ofNat r) k = Int32.ofNat 0) : ∃ m', dN e (d + 2) 184 [.ref (ad 0), .int (Int32.ofNat r), .int (Int32.ofNat k)] m = rI (bI (reqB s h (Int32.ofNat r) k)) m' ∧ WST e nb Y ad h (reqS s h (Int32.ofNat r) k) m' ∧ fW nb ad m m' 0 0 := by
  obtain ⟨W, H⟩ := Z.ws
  have hk' : k < nbS s := by rw [Z.nbs.1]; exact hk
  have hw : nN (bx s k 8) < 3 := by
    have h1 := (obs_0 ho).2
    obtain ⟨w, w1, w2, -, w4⟩ := (W.2.2.2.1 k hk').2.2.2.2.2.2.1.ex
    rw [w1, nEq (by omega) (by omega)] at h1
    omega
  exact Z.ch (SIN_req Z.2.2.2.1 W hw) (INV_req Z.inv W H hr ho hw) (fun X hI hE Z' => w_requests hI hE Z' hk hr hw)
theorem v_years (Z : WST e nb Y ad h s m) {n : Nat} (hn : n ≤ 1000) (hY : Y + n ≤ 1000000) : ∃ m', dN e (d + 3) 186 [.ref (ad 0), .int (Int32.ofNat n)] m = some (.inl none, m') ∧ WST e nb (Y + n) ad h (yrsS h n s) m' ∧ fW nb ad m m' 0 0 := by
  obtain ⟨W, H⟩ := Z.ws
  exact Z.ch (SIN_yrs Z.2.2.2.1 W hY) (INV_yrs Z.inv W H hY) (fun X hI hE Z' => w_years hI hE Z' Z.2.2.2.1 hn hY)
theorem v_approves (Z : WST e nb Y ad h s m) : ∃ m', dN e (d + 3) 179 [.ref (ad 0)] m = rI (Int32.ofNat (aprN s h)) m' ∧ WST e nb Y ad h (aprS s h) m' ∧ fW nb ad m m' 0 0 :=
  Z.ch (SIN_apr Z.2.2.2.1) (INV_apr Z.inv) (fun X hI hE Z' => w_approves hI hE Z')
theorem v_lists (Z : WST e nb Y ad h s m) : ∃ m', dN e (d + 3) 177 [.ref (ad 0)] m = some (.inl none, m') ∧ WST e nb Y ad h (listsS s h) m' ∧ fW nb ad m m' 1 24 := by
  have Z0 := Z
  obtain ⟨W, H⟩ := Z.ws
  obtain ⟨hI, hE, hb, V1, V2, X, hX, Z'⟩ := Z
  obtain ⟨X', U', g1, g2⟩ := w_lists (d := d) (m := m) hI hE Z' hb
  rw [wM_self hX] at g1
  exact ⟨_, g1, Z0.ov (SIN_lists V1 W) (INV_lists V2 W) (c := 1) (z := 24) rfl g2, (fW.aU rfl).ovc⟩
/-! a new box -/
def xAd (ad : Nat → Nat) (nb a : Nat) : Nat → Nat := fun i => if i = 7 + 2 * nb then a else if i = 7 + 2 * nb + 1 then a + 1 else ad i
theorem xAd_o {a i : Nat} (h : i < 7 + 2 * nb ∨ 7 + 2 * nb + 1 < i) : xAd ad nb a i = ad i := by
  unfold xAd
  rw [if_neg (by omega), if_neg (by omega)]
theorem xAd_b {a : Nat} : xAd ad nb a (7 + 2 * nb) = a := if_pos rfl
theorem xAd_q {a : Nat} : xAd ad nb a (7 + 2 * nb + 1) = a + 1 := by
  unfold xAd
  rw [if_neg (by omega), if_pos rfl]
theorem dDef10 : ∀ t, t ≠ 2 → dDef 10 t = .int (Int32.ofNat 0)
  | 0, _ => rfl
  | 1, _ => rfl
  | 2, h => absurd rfl h
  | 3, _ => rfl
  | 4, _ => rfl
  | 5, _ => rfl
  | 6, _ => rfl
  | 7, _ => rfl
  | 8, _ => rfl
  | 9, _ => rfl
  | _ + 10, _ => rfl
theorem TWr_o {nb nb' i k : Nat} (h : i ≠ 5) : TWr nb' i k = TWr nb i k := by
  unfold TWr
  by_cases h0 : i = 0
  · rw [if_pos h0, if_pos h0]
  · rw [if_neg h0, if_neg h0, if_neg h, if_neg h]
theorem TWr_lt {nb i k q : Nat} (hi : i < 7 + 2 * nb) (h : TWr nb i k = q + 1) : q < 7 + 2 * nb ∨ q = 1000 := by
  unfold TWr at h
  by_cases h0 : i = 0
  · rw [if_pos h0] at h
    unfold TWr0 at h
    split at h <;> omega
  · rw [if_neg h0] at h
    by_cases h5 : i = 5
    · rw [if_pos h5] at h
      split at h <;> omega
    · rw [if_neg h5] at h
      split at h
      · omega
      · split at h
        · split at h <;> omega
        · omega
/-- a cell of the World's, told by a larger map -/
theorem aC_up {nb a i : Nat} {X' : wX} (hnb : nb ≤ 24) (hi : i < 7 + 2 * nb) (h5 : i ≠ 5) (hX : X' i = X i) : aC (TW (nb + 1)) (xAd ad nb a) X' i = aC (TW nb) ad X i := by
  have hfl : aFl (TW (nb + 1)) (xAd ad nb a) X' i = aFl (TW nb) ad X i := by
    funext k
    unfold aFl
    show (match TWr (nb + 1) i k with | 0 => Value.int (X' i k) | q + 1 => .ref (xAd ad nb a q)) = (match TWr nb i k with | 0 => Value.int (X i k) | q + 1 => .ref (ad q))
    rw [TWr_o (nb := nb) h5, hX]
    cases hq : TWr nb i k with
    | zero => rfl
    | succ q =>
      show Value.ref (xAd ad nb a q) = .ref (ad q)
      rw [xAd_o (by have := TWr_lt hi hq; omega)]
  have har : aAr (TW (nb + 1)) (xAd ad nb a) X' i (TWk i) = aAr (TW nb) ad X i (TWk i) := by
    have h6 : TWk i ≠ 6 := by
      unfold TWk
      rw [if_neg h5] 
      split <;> omega
    rw [aAr_I h6, aAr_I h6, hX]
  unfold aC
  show (match TWc i with | 0 => Sum.inl (TWk i, TWn i, aAr (TW (nb + 1)) (xAd ad nb a) X' i (TWk i)) | c + 1 => Sum.inr (c, aFl (TW (nb + 1)) (xAd ad nb a) X' i)) = (match TWc i with | 0 => Sum.inl (TWk i, TWn i, aAr (TW nb) ad X i (TWk i)) | c + 1 => Sum.inr (c, aFl (TW nb) ad X i))
  rw [hfl, har]
theorem i4 : (0 ≤ (Int32.ofNat 4).toInt ∧ (Int32.ofNat 4).toInt ≤ 100000) := by decide +kernel
theorem t4 : (Int32.ofNat 4).toInt.toNat = 4 := by decide +kernel
theorem box_new (ha : e.1 ≤ m.2.1) {x1 x2 x3 x4 : Int32} : ∃ m3 g F, dN e (d + 1) 165 [.ref m.2.1, .int x1, .int x2, .int x3, .int x4] (nO m 10 (dNf 10) (dDef 10)) = some (.inl none, m3) ∧ BLD m.2.1 2 g 15 m m3 ∧ g 0 = .inr (10, F) ∧ g 1 = .inl (0, 4, dDf 0) ∧ F 2 = .ref (m.2.1 + 1) ∧ F 7 = .int nM1 ∧ F 0 = .int x1 ∧ F 1 = .int x2 ∧ F 5 = .int x3 ∧ F 6 = .int x4 ∧ ∀ t, t ≠ 2 → t ≠ 7 → t ≠ 0 → t ≠ 1 → t ≠ 5 → t ≠ 6 → F t = .int (Int32.ofNat 0) := by
  have B0 : BLD m.2.1 1 (fun _ => .inr (10, dDef 10)) 11 m (nO m 10 (dNf 10) (dDef 10)) := BLD_O rfl
  obtain ⟨m1, r1, B1⟩ := B0.np (kd := 0) (len := 4) (k := 2) (by omega) rfl ha
  obtain ⟨m2, r2, B2⟩ := B1.pi (k := 7) (v := nM1) (by omega) (if_pos rfl) ha
  obtain ⟨m3, r3, B3⟩ := B2.pi (k := 0) (v := x1) (by omega) (if_pos rfl) ha
  obtain ⟨m4, r4, B4⟩ := B3.pi (k := 1) (v := x2) (by omega) (if_pos rfl) ha
  obtain ⟨m5, r5, B5⟩ := B4.pi (k := 5) (v := x3) (by omega) (if_pos rfl) ha
  obtain ⟨m6, r6, B6⟩ := B5.pi (k := 6) (v := x4) (by omega) (if_pos rfl) ha
  refine ⟨m6, _, _, ?_, B6, if_pos rfl, ?_, ?_, ?_, ?_, ?_, ?_, ?_, fun t h2 h7 h0 h1 h5 h6 => ?_⟩
  · refine en165 (B0.cc (by omega) rfl) fun t ht => ?_
    obtain ⟨u, rfl⟩ := fu 9 ht rfl
    rw [q165_0, if_pos i4, t4, r1]
    simp only [bd_s]
    rw [r2]
    simp only [bd_s]
    rw [r3]
    simp only [bd_s]
    rw [r4]
    simp only [bd_s]
    rw [r5]
    simp only [bd_s]
    rw [r6]
    rfl
  · rfl
  · rfl
  · rfl
  · rfl
  · rfl
  · rfl
  · rfl
  · show (if t = 6 then _ else if t = 5 then _ else if t = 1 then _ else if t = 0 then _ else if t = 7 then _ else if t = 2 then _ else dDef 10 t) = _
    rw [if_neg h6, if_neg h5, if_neg h1, if_neg h0, if_neg h7, if_neg h2, dDef10 t h2]
/-- the numbers with a new box -/
def nwX (X : wX) (nb : Nat) (x1 x2 x3 x4 : Int32) : wX := fun i => if i = 7 + 2 * nb then (fun k => if k = 0 then x1 else if k = 1 then x2 else if k = 5 then x3 else if k = 6 then x4 else if k = 7 then nM1 else Int32.ofNat 0) else if i = 7 + 2 * nb + 1 then (fun _ => Int32.ofNat 0) else if i = 0 then wr (X 0) 12 (Int32.ofNat (nb + 1)) else X i
theorem nwX_b {x1 x2 x3 x4 : Int32} : nwX X nb x1 x2 x3 x4 (7 + 2 * nb) = fun k => if k = 0 then x1 else if k = 1 then x2 else if k = 5 then x3 else if k = 6 then x4 else if k = 7 then nM1 else Int32.ofNat 0 := if_pos rfl
theorem nwX_q {x1 x2 x3 x4 : Int32} : nwX X nb x1 x2 x3 x4 (7 + 2 * nb + 1) = fun _ => Int32.ofNat 0 := by
  unfold nwX
  rw [if_neg (by omega), if_pos rfl]
theorem nwX_0 {x1 x2 x3 x4 : Int32} : nwX X nb x1 x2 x3 x4 0 = wr (X 0) 12 (Int32.ofNat (nb + 1)) := by
  unfold nwX
  rw [if_neg (by omega), if_neg (by omega), if_pos rfl]
theorem nwX_o {x1 x2 x3 x4 : Int32} {i : Nat} (h0 : i ≠ 0) (h : i < 7 + 2 * nb) : nwX X nb x1 x2 x3 x4 i = X i := by
  unfold nwX
  rw [if_neg (by omega), if_neg (by omega), if_neg h0]
theorem OKW_new (hY : Y ≤ 1000000) (Z : OKW nb Y X h s) (hnb : nb < 24) {c y i j : Nat} (hc : c < nN (h 2)) (hc8 : c < 8) (hy : 1800 ≤ y) (hy2 : y ≤ nN (s 0)) (hi : i < nN (h 0)) (hj : j < nN (h 1)) : OKW (nb + 1) Y (nwX X nb (Int32.ofNat c) (Int32.ofNat y) (Int32.ofNat i) (Int32.ofNat j)) h (newS s (Int32.ofNat c) (Int32.ofNat y) (Int32.ofNat (i * nN (h 1) + j))) := by
  obtain ⟨S, P, x1, x2, s1, s2, p1, p2, u1, u2, u3, u4, mk, mk8⟩ := Z.sp
  obtain ⟨hX, hs1, hn0, hn⟩ := Z.nbE
  have hq : i * nN (h 1) + j < mkN h := mk_lt hi hj
  have W' := WS_new (c := c) (y := y) (q := i * nN (h 1) + j) Z.2.2.1 (by omega) hc hc8 hy hy2 hY hq (by omega)
  have n1 : nbS (newS s (Int32.ofNat c) (Int32.ofNat y) (Int32.ofNat (i * nN (h 1) + j))) = nb + 1 := by unfold nbS; rw [new_1, nN_o (by omega), hn0]
  have n2 : nlS (newS s (Int32.ofNat c) (Int32.ofNat y) (Int32.ofNat (i * nN (h 1) + j))) = nlS s := by unfold nlS; rw [new_lo (by omega) (by omega)]
  obtain ⟨-, ⟨a, b, c', dd, f, g⟩, W, H⟩ := Z
  refine ⟨n1, ⟨?_, ?_, ?_, VH_congr dd (fun f hf => by rw [nwX_0, wr_n (by omega)]) (fun i h1 h2 => nwX_o (by omega) (by omega)), fun k hk => ?_, fun i hi => ?_⟩, W', H⟩
  · rw [nwX_0, wr_n (by omega), new_lo (by omega) (by omega)]; exact a
  · rw [nwX_0, wr_s, new_1, hn0]
  · rw [nwX_0, wr_n (by omega), new_lo (by omega) (by omega)]; exact c'
  · rw [n1] at hk
    by_cases q : k = nb
    · subst q
      have e : ∀ f, f < 12 → bx (newS s (Int32.ofNat c) (Int32.ofNat y) (Int32.ofNat (i * nN (h 1) + j))) k f = (if f = 5 then nM1 else if f = 4 then Int32.ofNat (i * nN (h 1) + j) else if f = 1 then Int32.ofNat y else if f = 0 then Int32.ofNat c else Int32.ofNat 0) := fun f hf => by rw [new_bx hf, if_pos hn0.symm]
      refine ⟨?_, ?_, ?_, ?_, ?_, ?_, ?_, ?_, fun _ => ⟨i, j, hi, hj, ?_, ?_, ?_⟩, fun t ht => ?_⟩
      · rw [nwX_b, e 0 (by omega)]; rfl
      · rw [nwX_b, e 1 (by omega)]; rfl
      · rw [nwX_b, e 2 (by omega)]; rfl
      · rw [nwX_b, e 3 (by omega)]; rfl
      · rw [nwX_b, e 5 (by omega)]; rfl
      · rw [nwX_b, e 6 (by omega)]; rfl
      · rw [nwX_b, e 8 (by omega)]; rfl
      · rw [nwX_b, e 7 (by omega)]; rfl
      · rw [nwX_b]; rfl
      · rw [nwX_b]; rfl
      · rw [e 4 (by omega)]; rfl
      · rw [e 8 (by omega)] at ht
        exact absurd ht (by rw [if_neg (by omega), if_neg (by omega), if_neg (by omega), if_neg (by omega), nN_o (by omega)]; omega)
    · exact VB_congr (f k (by omega)) (W.2.2.2.1 k (by omega)).2.2.2.2.2.2.1.2.2 (nwX_o (by omega) (by omega)) (nwX_o (by omega) (by omega)) (fun f hf => by rw [new_bx hf, if_neg (by omega)])
  · rw [n2] at hi
    have := W.2.1.2.2
    have hi24 : i < 24 := by unfold nlS at hi; omega
    rw [nwX_o (by omega) (by omega), new_lo (by omega) (by omega)]
    exact g i hi
theorem v_adds (Z : WST e nb Y ad h s m) (hY : Y ≤ 1000000) (hnb : nb < 24) {c y i j : Nat} (hc : c < nN (h 2)) (hc8 : c < 8) (hy : 1800 ≤ y) (hy2 : y ≤ nN (s 0)) (hi : i < nN (h 0)) (hj : j < nN (h 1)) (hf : boxOnS s (Int32.ofNat (i * nN (h 1) + j)) = nM1) :
    ∃ m', dN e (d + 2) 170 [.ref (ad 0), .int (Int32.ofNat c), .int (Int32.ofNat y), .int (Int32.ofNat i), .int (Int32.ofNat j)] m = some (.inl none, m') ∧ WST e (nb + 1) Y (xAd ad nb m.2.1) h (newS s (Int32.ofNat c) (Int32.ofNat y) (Int32.ofNat (i * nN (h 1) + j))) m' ∧ fW nb ad m m' 2 15 := by
  have hns := Z.nbs
  obtain ⟨hI, hE, hb, V1, V2, X, hX, Z'⟩ := Z
  have ha : e.1 ≤ m.2.1 := by have h1 := hE 0 (by omega); have h2 := hb 0 (by omega); omega
  have hm0 := wM_self hX
  have r9 : gR m (ad 0) 12 9 = some (ad 5) := by have := W_r9 (X := X) (m := m) hI; rwa [hm0] at this
  have g12 : gI m (ad 0) 12 12 = some (Int32.ofNat nb) := by have := W_g12 (X := X) (m := m) hI; rw [hm0, Z'.nbE.1] at this; exact this
  have c0 : isC m (ad 0) 12 = true := by have := W_c0 (X := X) (m := m) hI; rwa [hm0] at this
  obtain ⟨m3, g, F, k1, B, f0, f1, F2, F7, F0, F1, F5, F6, Fo⟩ := box_new (e := e) (d := d) (m := m) ha (x1 := Int32.ofNat c) (x2 := Int32.ofNat y) (x3 := Int32.ofNat i) (x4 := Int32.ofNat j)
  obtain ⟨b1, b2, b3⟩ := B
  have hb5 := hb 5 (by omega)
  have hb0 := hb 0 (by omega)
  have m35 : m3.1 (ad 5) = some (aC (TW nb) ad X 5) := by rw [b2 _ hb5]; exact hX 5 (by omega)
  have m30 : m3.1 (ad 0) = some (aC (TW nb) ad X 0) := by rw [b2 _ hb0]; exact hX 0 (by omega)
  have m3a : m3.1 m.2.1 = some (.inr (10, F)) := by have := b1 0 (by omega); rw [Nat.add_zero, f0] at this; exact this
  have m3q : m3.1 (m.2.1 + 1) = some (.inl (0, 4, dDf 0)) := by have := b1 1 (by omega); rw [f1] at this; exact this
  have c5 : aC (TW nb) ad X 5 = .inl (6, 24, .inr (.inr (.inr fun k => match TWr nb 5 k with | 0 => none | q + 1 => some (ad q)))) := rfl
  have c0' : aC (TW nb) ad X 0 = .inr (12, aFl (TW nb) ad X 0) := rfl
  have hisC : isC m3 m.2.1 10 = true := by unfold isC; rw [m3a]; rfl
  -- the box into the row
  obtain ⟨m4, hm4⟩ : ∃ m4, m4 = dUp m3 (ad 5) (.inl (6, 24, .inr (.inr (.inr (dFun (fun k => match TWr nb 5 k with | 0 => none | q + 1 => some (ad q)) nb (some m.2.1)))))) := ⟨_, rfl⟩
  have s4 : sR e m3 6 (ad 5) (Int32.ofNat nb) m.2.1 10 = some m4 := by
    unfold sR
    rw [m35, c5]
    simp only
    rw [if_pos ⟨trivial, hE 5 (by omega), by rw [nToI (by omega)]; omega, by rw [nToI (by omega)]; omega, hisC⟩, nToN (by omega), hm4]
  have h50 : ad 0 ≠ ad 5 := fun z => by have := hI 0 5 (by omega) (by omega) z; omega
  have m40 : m4.1 (ad 0) = some (.inr (12, aFl (TW nb) ad X 0)) := by rw [hm4, dUp_n h50, m30, c0']
  have g12b : gI m4 (ad 0) 12 12 = some (Int32.ofNat nb) := by
    unfold gI
    rw [m40]
    simp only [if_true]
    show (match (Value.int (X 0 12)) with | .int x => some x | _ => none) = _
    rw [Z'.nbE.1]
  obtain ⟨m5, hm5⟩ : ∃ m5, m5 = dUp m4 (ad 0) (.inr (12, fun t => if t = 12 then .int (Int32.ofNat (nb + 1)) else aFl (TW nb) ad X 0 t)) := ⟨_, rfl⟩
  have s5 : pI e m4 (ad 0) 12 12 (Int32.ofNat (nb + 1)) = some m5 := by
    unfold pI pV
    rw [m40]
    simp only
    rw [if_pos ⟨trivial, hE 0 (by omega)⟩, hm5]
  have hm52 : m5.2 = (m.2.1 + 2, m.2.2 + 15) := by rw [hm5]; show m4.2 = _; rw [hm4]; exact b3
  refine ⟨m5, ?_, ⟨?_, ?_, ?_, SIN_new V1 (by omega), INV_new V2 (by omega) hf, nwX X nb (Int32.ofNat c) (Int32.ofNat y) (Int32.ofNat i) (Int32.ofNat j), ?_, OKW_new hY Z' hnb hc hc8 hy hy2 hi hj⟩, ?_, hm52⟩
  · refine en170 c0 fun t ht => ?_
    obtain ⟨u, rfl⟩ := fu 9 ht rfl
    rw [q170_0, r9]
    simp only [bd_s]
    rw [g12]
    simp only [bd_s]
    rw [k1, kV_r, s4]
    simp only [bd_s]
    rw [g12b]
    simp only [bd_s]
    rw [nAdd, s5]
    rfl
  · intro i' j' hi' hj' hij
    by_cases q1 : i' < 7 + 2 * nb
    · by_cases q2 : j' < 7 + 2 * nb
      · rw [xAd_o (Or.inl q1), xAd_o (Or.inl q2)] at hij
        exact hI i' j' q1 q2 hij
      · rw [xAd_o (Or.inl q1)] at hij
        have := hb i' q1
        by_cases q3 : j' = 7 + 2 * nb
        · rw [q3, xAd_b] at hij; omega
        · rw [show j' = 7 + 2 * nb + 1 by omega, xAd_q] at hij; omega
    · by_cases q2 : j' < 7 + 2 * nb
      · rw [xAd_o (Or.inl q2)] at hij
        have := hb j' q2
        by_cases q3 : i' = 7 + 2 * nb
        · rw [q3, xAd_b] at hij; omega
        · rw [show i' = 7 + 2 * nb + 1 by omega, xAd_q] at hij; omega
      · by_cases q3 : i' = 7 + 2 * nb
        · by_cases q4 : j' = 7 + 2 * nb
          · omega
          · rw [q3, xAd_b, show j' = 7 + 2 * nb + 1 by omega, xAd_q] at hij; omega
        · by_cases q4 : j' = 7 + 2 * nb
          · rw [q4, xAd_b, show i' = 7 + 2 * nb + 1 by omega, xAd_q] at hij; omega
          · omega
  · intro i' hi'
    by_cases q1 : i' < 7 + 2 * nb
    · rw [xAd_o (Or.inl q1)]; exact hE i' q1
    · by_cases q3 : i' = 7 + 2 * nb
      · rw [q3, xAd_b]; exact ha
      · rw [show i' = 7 + 2 * nb + 1 by omega, xAd_q]; omega
  · intro i' hi'
    rw [hm52]
    show _ < m.2.1 + 2
    by_cases q1 : i' < 7 + 2 * nb
    · rw [xAd_o (Or.inl q1)]; have := hb i' q1; omega
    · by_cases q3 : i' = 7 + 2 * nb
      · rw [q3, xAd_b]; omega
      · rw [show i' = 7 + 2 * nb + 1 by omega, xAd_q]; omega
  · intro i' hi'
    by_cases q1 : i' < 7 + 2 * nb
    · rw [xAd_o (Or.inl q1)]
      by_cases q0 : i' = 0
      · subst q0
        rw [hm5, dUp_s]
        refine congrArg some ?_
        show Sum.inr (12, _) = Sum.inr (12, aFl (TW (nb + 1)) (xAd ad nb m.2.1) (nwX X nb (Int32.ofNat c) (Int32.ofNat y) (Int32.ofNat i) (Int32.ofNat j)) 0)
        refine congrArg Sum.inr (Prod.ext rfl (funext fun t => ?_))
        show (if t = 12 then Value.int (Int32.ofNat (nb + 1)) else aFl (TW nb) ad X 0 t) = (match TWr0 t with | 0 => Value.int (nwX X nb (Int32.ofNat c) (Int32.ofNat y) (Int32.ofNat i) (Int32.ofNat j) 0 t) | q + 1 => .ref (xAd ad nb m.2.1 q))
        by_cases qt : t = 12
        · rw [if_pos qt, qt]
          show _ = Value.int (nwX X nb (Int32.ofNat c) (Int32.ofNat y) (Int32.ofNat i) (Int32.ofNat j) 0 12)
          rw [nwX_0, wr_s]
        · rw [if_neg qt]
          show (match TWr0 t with | 0 => Value.int (X 0 t) | q + 1 => .ref (ad q)) = _
          rw [nwX_0, wr_n qt]
          cases hq : TWr0 t with
          | zero => rfl
          | succ q =>
            show Value.ref (ad q) = .ref (xAd ad nb m.2.1 q)
            rw [xAd_o (by
              have h9 : TWr nb 0 t = q + 1 := hq
              have := TWr_lt (nb := nb) (by omega) h9
              omega)]
      · have hne0 : ad i' ≠ ad 0 := fun z => q0 (hI i' 0 q1 (by omega) z)
        rw [hm5, dUp_n hne0, hm4]
        by_cases q5 : i' = 5
        · subst q5
          rw [dUp_s]
          refine congrArg some ?_
          show Sum.inl (6, 24, _) = Sum.inl (6, 24, aAr (TW (nb + 1)) (xAd ad nb m.2.1) (nwX X nb (Int32.ofNat c) (Int32.ofNat y) (Int32.ofNat i) (Int32.ofNat j)) 5 6)
          refine congrArg Sum.inl (Prod.ext rfl (Prod.ext rfl ?_))
          show Sum.inr (Sum.inr (Sum.inr _)) = Sum.inr (Sum.inr (Sum.inr fun k => match TWr (nb + 1) 5 k with | 0 => none | q + 1 => some (xAd ad nb m.2.1 q)))
          refine congrArg (fun z => Sum.inr (Sum.inr (Sum.inr z))) (funext fun k => ?_)
          show (if k = nb then some m.2.1 else (match TWr nb 5 k with | 0 => none | q + 1 => some (ad q))) = _
          by_cases qk : k = nb
          · rw [if_pos qk, qk, TW_5 (by omega)]
            show _ = some (xAd ad nb m.2.1 (7 + 2 * nb))
            rw [xAd_b]
          · rw [if_neg qk]
            by_cases qk2 : k < nb
            · rw [TW_5 qk2, TW_5 (by omega)]
              show some (ad (7 + 2 * k)) = some (xAd ad nb m.2.1 (7 + 2 * k))
              rw [xAd_o (by omega)]
            · have e1 : TWr nb 5 k = 0 := by unfold TWr; rw [if_neg (by omega), if_pos rfl, if_neg qk2]
              have e2 : TWr (nb + 1) 5 k = 0 := by unfold TWr; rw [if_neg (by omega), if_pos rfl, if_neg (by omega)]
              rw [e1, e2]
        · have hne5 : ad i' ≠ ad 5 := fun z => q5 (hI i' 5 q1 (by omega) z)
          rw [dUp_n hne5, b2 _ (hb i' q1), hX i' q1, aC_up (by omega) q1 q5 (nwX_o q0 q1)]
    · have hne : ∀ z, m.2.1 ≤ z → z ≠ ad 0 ∧ z ≠ ad 5 := fun z hz => ⟨by omega, by omega⟩
      by_cases q3 : i' = 7 + 2 * nb
      · rw [q3, xAd_b, hm5, dUp_n (hne _ (Nat.le_refl _)).1, hm4, dUp_n (hne _ (Nat.le_refl _)).2, m3a]
        refine congrArg some ?_
        have hc9 : aC (TW (nb + 1)) (xAd ad nb m.2.1) (nwX X nb (Int32.ofNat c) (Int32.ofNat y) (Int32.ofNat i) (Int32.ofNat j)) (7 + 2 * nb) = .inr (10, aFl (TW (nb + 1)) (xAd ad nb m.2.1) (nwX X nb (Int32.ofNat c) (Int32.ofNat y) (Int32.ofNat i) (Int32.ofNat j)) (7 + 2 * nb)) := by
          unfold aC
          show (match TWc (7 + 2 * nb) with | 0 => _ | c + 1 => _) = _
          rw [TW_b]
        rw [hc9]
        refine congrArg Sum.inr (Prod.ext rfl (funext fun t => ?_))
        show F t = (match TWr (nb + 1) (7 + 2 * nb) t with | 0 => Value.int (nwX X nb (Int32.ofNat c) (Int32.ofNat y) (Int32.ofNat i) (Int32.ofNat j) (7 + 2 * nb) t) | q + 1 => .ref (xAd ad nb m.2.1 q))
        by_cases t2 : t = 2
        · rw [t2, TW_b2, F2]
          show _ = Value.ref (xAd ad nb m.2.1 (7 + 2 * nb + 1))
          rw [xAd_q]
        · rw [TW_bf t2]
          show F t = Value.int (nwX X nb (Int32.ofNat c) (Int32.ofNat y) (Int32.ofNat i) (Int32.ofNat j) (7 + 2 * nb) t)
          rw [nwX_b]
          by_cases t0 : t = 0
          · rw [t0, F0]; rfl
          by_cases t1 : t = 1
          · rw [t1, F1]; rfl
          by_cases t5 : t = 5
          · rw [t5, F5]; rfl
          by_cases t6 : t = 6
          · rw [t6, F6]; rfl
          by_cases t7 : t = 7
          · rw [t7, F7]; rfl
          rw [Fo t t2 t7 t0 t1 t5 t6]
          simp only [if_neg t0, if_neg t1, if_neg t5, if_neg t6, if_neg t7]
      · rw [show i' = 7 + 2 * nb + 1 by omega, xAd_q, hm5, dUp_n (hne _ (Nat.le_succ _)).1, hm4, dUp_n (hne _ (Nat.le_succ _)).2, m3q]
        refine congrArg some ?_
        unfold aC
        show _ = (match TWc (7 + 2 * nb + 1) with | 0 => Sum.inl (TWk (7 + 2 * nb + 1), TWn (7 + 2 * nb + 1), aAr (TW (nb + 1)) (xAd ad nb m.2.1) (nwX X nb (Int32.ofNat c) (Int32.ofNat y) (Int32.ofNat i) (Int32.ofNat j)) (7 + 2 * nb + 1) (TWk (7 + 2 * nb + 1))) | c + 1 => _)
        rw [TW_q, TW_kq, TW_nq, aAr_I (by decide), nwX_q]
        rfl
  · intro q hq hne
    rw [hm5, dUp_n (fun z => hne 0 (by omega) z.symm), hm4, dUp_n (fun z => hne 5 (by omega) z.symm)]
    exact b2 q hq
end
end

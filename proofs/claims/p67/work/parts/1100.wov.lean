/-! ===== cells at places of a map, laid over a memory ===== -/
noncomputable section
abbrev wX : Type := Nat → sV
def aAr (T : bTab) (ad : Nat → Nat) (X : wX) (i : Nat) : Nat → dArr
  | 6 => .inr (.inr (.inr fun k => match T.2.1 i k with
    | 0 => none
    | q + 1 => some (ad q)))
  | _ => .inl (X i)
def aFl (T : bTab) (ad : Nat → Nat) (X : wX) (i k : Nat) : Value := match T.2.1 i k with
  | 0 => .int (X i k)
  | q + 1 => .ref (ad q)
def aC (T : bTab) (ad : Nat → Nat) (X : wX) (i : Nat) : dObj := match T.1 i with
  | 0 => .inl (T.2.2.1 i, T.2.2.2 i, aAr T ad X i (T.2.2.1 i))
  | c + 1 => .inr (c, aFl T ad X i)
def fAd (ad : Nat → Nat) (n q : Nat) : Option Nat := fnd n fun i => decide (ad i = q)
def ovA (T : bTab) (n : Nat) (ad : Nat → Nat) (X : wX) (m : dMem) : dMem := (fun q => match fAd ad n q with
  | some i => some (aC T ad X i)
  | none => m.1 q, m.2)
def hA (T : bTab) (n : Nat) (ad : Nat → Nat) (X : wX) (m : dMem) : Prop := ∀ i, i < n → m.1 (ad i) = some (aC T ad X i)
def iAd (ad : Nat → Nat) (n : Nat) : Prop := ∀ i j, i < n → j < n → ad i = ad j → i = j
def uX (X : wX) (i : Nat) (g : sV) : wX := fun i' => if i' = i then g else X i'
theorem uX_s (X : wX) (i : Nat) (g : sV) : uX X i g i = g := if_pos rfl
theorem uX_n {X : wX} {i j : Nat} {g : sV} (h : j ≠ i) : uX X i g j = X j := if_neg h
theorem uX_r (X : wX) (i i' k : Nat) (g : sV) : uX X i g i' k = if i' = i then g k else X i' k := by
  unfold uX
  split <;> rfl
theorem uX_uX (X : wX) (i : Nat) (g g' : sV) : uX (uX X i g) i g' = uX X i g' := by
  funext j
  unfold uX
  by_cases h : j = i <;> simp [h]
section OVA
variable {T : bTab} {n i : Nat} {ad : Nat → Nat} {X : wX} {m : dMem}
theorem fAd_at (hI : iAd ad n) (hi : i < n) : fAd ad n (ad i) = some i := fnd_is hi (decide_eq_true rfl) (fun j hj => decide_eq_false (fun h => by
  have := hI j i (by omega) hi h
  omega))
theorem fAd_out {q : Nat} (h : ∀ i, i < n → ad i ≠ q) : fAd ad n q = none := fnd_isNone (fun i hi => decide_eq_false (h i hi))
theorem fAd_some {q : Nat} (h : fAd ad n q = some i) : i < n ∧ ad i = q := ⟨(fnd_some h).1, of_decide_eq_true (fnd_some h).2.1⟩
theorem fAd_none {q : Nat} (h : fAd ad n q = none) : ∀ i, i < n → ad i ≠ q := fun i hi => of_decide_eq_false (fnd_none h i hi)
theorem ovA_at (hI : iAd ad n) (hi : i < n) : (ovA T n ad X m).1 (ad i) = some (aC T ad X i) := by
  show (match fAd ad n (ad i) with | some i => some (aC T ad X i) | none => m.1 (ad i)) = _
  rw [fAd_at hI hi]
theorem ovA_out {q : Nat} (h : ∀ i, i < n → ad i ≠ q) : (ovA T n ad X m).1 q = m.1 q := by
  show (match fAd ad n q with | some i => some (aC T ad X i) | none => m.1 q) = _
  rw [fAd_out h]
theorem ovA_2 : (ovA T n ad X m).2 = m.2 := rfl
theorem ovA_ovA {X' : wX} : ovA T n ad X' (ovA T n ad X m) = ovA T n ad X' m := by
  refine Prod.ext (funext fun q => ?_) rfl
  show (match fAd ad n q with | some i => some (aC T ad X' i) | none => (ovA T n ad X m).1 q) = (match fAd ad n q with | some i => some (aC T ad X' i) | none => m.1 q)
  cases h : fAd ad n q with
  | some i => rfl
  | none => exact ovA_out (fAd_none h)
theorem ovA_self (h : hA T n ad X m) : ovA T n ad X m = m := by
  refine Prod.ext (funext fun q => ?_) rfl
  show (match fAd ad n q with | some i => some (aC T ad X i) | none => m.1 q) = m.1 q
  cases hq : fAd ad n q with
  | none => rfl
  | some i =>
    obtain ⟨h1, h2⟩ := fAd_some hq
    rw [← h2, h i h1]
theorem hA_ovA (hI : iAd ad n) : hA T n ad X (ovA T n ad X m) := fun _ hi => ovA_at hI hi
theorem hA_mem {m' : dMem} (h : hA T n ad X m) (he : ∀ i, i < n → m'.1 (ad i) = m.1 (ad i)) : hA T n ad X m' := fun i hi => (he i hi).trans (h i hi)
theorem ovA_upd {X' : wX} {o : dObj} (hI : iAd ad n) (hi : i < n) (ho : aC T ad X' i = o) (hj : ∀ j, j ≠ i → aC T ad X' j = aC T ad X j) : dUp (ovA T n ad X m) (ad i) o = ovA T n ad X' m := by
  refine Prod.ext (funext fun q => ?_) rfl
  show (if q = ad i then some o else (ovA T n ad X m).1 q) = (ovA T n ad X' m).1 q
  by_cases h : q = ad i
  · rw [if_pos h, h, ovA_at hI hi, ho]
  · rw [if_neg h]
    cases hq : fAd ad n q with
    | none => rw [ovA_out (fAd_none hq), ovA_out (fAd_none hq)]
    | some j =>
      obtain ⟨h1, h2⟩ := fAd_some hq
      have hji : j ≠ i := fun z => h (by rw [← h2, z])
      rw [← h2, ovA_at hI h1, ovA_at hI h1, hj j hji]
theorem aC_uX {g : sV} {j : Nat} (h : j ≠ i) : aC T ad (uX X i g) j = aC T ad X j := by
  have e : uX X i g j = X j := uX_n h
  unfold aC aAr aFl
  rw [e]
theorem aAr_I {kd : Nat} (h6 : kd ≠ 6) : aAr T ad X i kd = .inl (X i) := by
  unfold aAr
  split <;> first | rfl | contradiction
theorem ovA_isC {c : Nat} (hI : iAd ad n) (hi : i < n) (h1 : T.1 i = c + 1) : isC (ovA T n ad X m) (ad i) c = true := by
  unfold isC
  rw [ovA_at hI hi]
  simp only [aC, h1]
  exact Nat.beq_refl c
theorem ovA_gI {c k : Nat} (hI : iAd ad n) (hi : i < n) (h1 : T.1 i = c + 1) (h2 : T.2.1 i k = 0) : gI (ovA T n ad X m) (ad i) c k = some (X i k) := by
  unfold gI
  rw [ovA_at hI hi]
  simp only [aC, h1, aFl, h2, if_true]
theorem ovA_gR {c k q : Nat} (hI : iAd ad n) (hi : i < n) (h1 : T.1 i = c + 1) (h2 : T.2.1 i k = q + 1) : gR (ovA T n ad X m) (ad i) c k = some (ad q) := by
  unfold gR
  rw [ovA_at hI hi]
  simp only [aC, h1, aFl, h2, if_true]
theorem ovA_pI {e : dEnv} {c k : Nat} {x : Int32} (hI : iAd ad n) (hi : i < n) (he : e.1 ≤ ad i) (h1 : T.1 i = c + 1) (h2 : T.2.1 i k = 0) : pI e (ovA T n ad X m) (ad i) c k x = some (ovA T n ad (uX X i (wr (X i) k x)) m) := by
  unfold pI pV
  rw [ovA_at hI hi]
  simp only [aC, h1]
  rw [if_pos ⟨trivial, he⟩]
  refine congrArg some (ovA_upd hI hi ?_ (fun j hj => aC_uX hj))
  simp only [aC, h1]
  refine congrArg Sum.inr (Prod.ext rfl (funext fun j => ?_))
  show aFl T ad (uX X i (wr (X i) k x)) i j = if j = k then .int x else aFl T ad X i j
  unfold aFl
  rw [uX_s]
  by_cases hjk : j = k
  · rw [if_pos hjk, hjk, h2]
    simp only [wr_s]
  · rw [if_neg hjk, wr_n hjk]
theorem ovA_pZ {e : dEnv} {c k : Nat} {x : Bool} (hI : iAd ad n) (hi : i < n) (he : e.1 ≤ ad i) (h1 : T.1 i = c + 1) (h2 : T.2.1 i k = 0) : pZ e (ovA T n ad X m) (ad i) c k (bI x) = some (ovA T n ad (uX X i (wr (X i) k (bI x))) m) := by
  unfold pZ
  rw [if_pos (bI01 x)]
  exact ovA_pI hI hi he h1 h2
theorem ovA_aI {kd N j : Nat} (hI : iAd ad n) (hi : i < n) (h1 : T.1 i = 0) (h2 : T.2.2.1 i = kd) (hk6 : kd ≠ 6) (h3 : T.2.2.2 i = N) (hN : N ≤ 100000) (hj : j < N) : aI (ovA T n ad X m) kd (ad i) (Int32.ofNat j) = some (X i j) := by
  unfold aI
  rw [ovA_at hI hi]
  simp only [aC, h1, h2, h3, aAr_I hk6]
  rw [if_pos ⟨trivial, by rw [nToI (by omega)]; omega, by rw [nToI (by omega)]; omega⟩, nToN (by omega)]
theorem ovA_aR {N j q : Nat} (hI : iAd ad n) (hi : i < n) (h1 : T.1 i = 0) (h2 : T.2.2.1 i = 6) (h3 : T.2.2.2 i = N) (hN : N ≤ 100000) (hj : j < N) (hq : T.2.1 i j = q + 1) : aR (ovA T n ad X m) 6 (ad i) (Int32.ofNat j) = some (ad q) := by
  unfold aR
  rw [ovA_at hI hi]
  simp only [aC, h1, h2, h3, aAr]
  rw [if_pos ⟨trivial, by rw [nToI (by omega)]; omega, by rw [nToI (by omega)]; omega⟩, nToN (by omega), hq]
theorem ovA_sI {e : dEnv} {kd N j : Nat} {x : Int32} (hI : iAd ad n) (hi : i < n) (he : e.1 ≤ ad i) (h1 : T.1 i = 0) (h2 : T.2.2.1 i = kd) (hk6 : kd ≠ 6) (h3 : T.2.2.2 i = N) (hN : N ≤ 100000) (hj : j < N) : sI e (ovA T n ad X m) kd (ad i) (Int32.ofNat j) x = some (ovA T n ad (uX X i (wr (X i) j (cvI kd x))) m) := by
  unfold sI
  rw [ovA_at hI hi]
  simp only [aC, h1, h2, h3, aAr_I hk6]
  rw [if_pos ⟨trivial, he, by rw [nToI (by omega)]; omega, by rw [nToI (by omega)]; omega⟩, nToN (by omega)]
  refine congrArg some (ovA_upd hI hi ?_ (fun k hk => aC_uX hk))
  simp only [aC, h1, h2, h3, aAr_I hk6]
  refine congrArg Sum.inl (Prod.ext rfl (Prod.ext rfl (congrArg Sum.inl ?_)))
  rw [uX_s]
  rfl
end OVA
end

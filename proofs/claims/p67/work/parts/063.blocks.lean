/-! ===== blocks of cells, laid over a memory ===== -/
noncomputable section
/-- a block's tables, by cell: its class plus one (0: an array), a field's target plus one (0: a number), an array's kind, its length -/
abbrev bTab : Type := (Nat → Nat) × (Nat → Nat → Nat) × (Nat → Nat) × (Nat → Nat)
/-- a block's numbers, by cell and place; longs likewise -/
abbrev bX : Type := (Nat → Nat → Int32) × (Nat → Nat → Int64)
abbrev sV : Type := Nat → Int32
def bAr (T : bTab) (a : Nat) (X : bX) (i : Nat) : Nat → dArr
  | 1 => .inr (.inl (X.2 i))
  | 5 => .inr (.inr (.inr fun k => match T.2.1 i k with
    | 0 => none
    | q + 1 => some (a + q)))
  | _ => .inl (X.1 i)
def bFl (T : bTab) (a : Nat) (X : bX) (i k : Nat) : Value := match T.2.1 i k with
  | 0 => .int (X.1 i k)
  | q + 1 => .ref (a + q)
def bC (T : bTab) (a : Nat) (X : bX) (i : Nat) : dObj := match T.1 i with
  | 0 => .inl (T.2.2.1 i, T.2.2.2 i, bAr T a X i (T.2.2.1 i))
  | c + 1 => .inr (c, bFl T a X i)
def ov (T : bTab) (n a : Nat) (X : bX) (m : dMem) : dMem := (fun q => if a ≤ q ∧ q < a + n then some (bC T a X (q - a)) else m.1 q, m.2)
def hB (T : bTab) (n a : Nat) (X : bX) (m : dMem) : Prop := ∀ i, i < n → m.1 (a + i) = some (bC T a X i)
def wr (f : sV) (j : Nat) (x : Int32) : sV := fun i => if i = j then x else f i
def uA (X : bX) (i : Nat) (g : sV) : bX := (fun i' => if i' = i then g else X.1 i', X.2)
def uL (X : bX) (i : Nat) (g : Nat → Int64) : bX := (X.1, fun i' => if i' = i then g else X.2 i')
theorem uA_s (X : bX) (i : Nat) (g : sV) : (uA X i g).1 i = g := if_pos rfl
theorem uA_n {X : bX} {i j : Nat} {g : sV} (h : j ≠ i) : (uA X i g).1 j = X.1 j := if_neg h
theorem uA_2 (X : bX) (i : Nat) (g : sV) : (uA X i g).2 = X.2 := rfl
theorem uL_1 (X : bX) (i : Nat) (g : Nat → Int64) : (uL X i g).1 = X.1 := rfl
theorem uL_s (X : bX) (i : Nat) (g : Nat → Int64) : (uL X i g).2 i = g := if_pos rfl
theorem uL_n {X : bX} {i j : Nat} {g : Nat → Int64} (h : j ≠ i) : (uL X i g).2 j = X.2 j := if_neg h
theorem uA_uA (X : bX) (i : Nat) (g g' : sV) : uA (uA X i g) i g' = uA X i g' := by
  unfold uA
  congr 1
  funext j
  by_cases h : j = i <;> simp [h]
theorem uA_self (X : bX) (i : Nat) : uA X i (X.1 i) = X := by
  refine Prod.ext (funext fun j => ?_) rfl
  show (if j = i then X.1 i else X.1 j) = X.1 j
  split
  · rename_i h; rw [h]
  · rfl
theorem uA_comm {X : bX} {i j : Nat} {g g' : sV} (h : j < i) : uA (uA X i g) j g' = uA (uA X j g') i g := by
  unfold uA
  congr 1
  funext k
  by_cases h1 : k = j
  · have : k ≠ i := by omega
    simp [h1, this, Nat.ne_of_lt h]
  · by_cases h2 : k = i <;> simp [h1, h2, Nat.ne_of_gt h]
theorem uA_uL (X : bX) (i j : Nat) (g : sV) (g' : Nat → Int64) : uA (uL X j g') i g = uL (uA X i g) j g' := rfl
theorem wr_s (f : sV) (j : Nat) (x : Int32) : wr f j x j = x := if_pos rfl
theorem wr_n {f : sV} {i j : Nat} {x : Int32} (h : i ≠ j) : wr f j x i = f i := if_neg h
theorem wr_wr (f : sV) (j : Nat) (x y : Int32) : wr (wr f j x) j y = wr f j y := by
  funext i
  by_cases h : i = j <;> simp [wr, h]
theorem wr_self (f : sV) (j : Nat) : wr f j (f j) = f := by
  funext i
  by_cases h : i = j <;> simp [wr, h]
theorem wr_comm {f : sV} {i j : Nat} {x y : Int32} (h : i ≠ j) : wr (wr f i x) j y = wr (wr f j y) i x := by
  funext k
  by_cases h1 : k = j
  · have h2 : k ≠ i := fun q => h (q.symm.trans h1)
    simp [wr, h1, Ne.symm h]
  · by_cases h2 : k = i <;> simp [wr, h1, h2, h]
section OV
variable {T : bTab} {n a i : Nat} {X : bX} {m : dMem}
theorem ov_at (hi : i < n) : (ov T n a X m).1 (a + i) = some (bC T a X i) := by
  have h1 : a ≤ a + i ∧ a + i < a + n := ⟨Nat.le_add_right _ _, by omega⟩
  show (if a ≤ a + i ∧ a + i < a + n then some (bC T a X (a + i - a)) else m.1 (a + i)) = _
  rw [if_pos h1, Nat.add_sub_cancel_left]
theorem ov_out {q : Nat} (h : q < a ∨ a + n ≤ q) : (ov T n a X m).1 q = m.1 q := if_neg (by omega)
theorem ov_2 : (ov T n a X m).2 = m.2 := rfl
theorem ov_ov {X' : bX} : ov T n a X' (ov T n a X m) = ov T n a X' m := by
  refine Prod.ext (funext fun q => ?_) rfl
  show (if _ then _ else (ov T n a X m).1 q) = (if _ then _ else m.1 q)
  split
  · rfl
  · rename_i h; exact ov_out (by omega)
theorem ov_self (h : hB T n a X m) : ov T n a X m = m := by
  refine Prod.ext (funext fun q => ?_) rfl
  show (if a ≤ q ∧ q < a + n then some (bC T a X (q - a)) else m.1 q) = m.1 q
  split
  · rename_i h1
    have h2 := h (q - a) (by omega)
    have e : a + (q - a) = q := by omega
    rw [e] at h2
    exact h2.symm
  · rfl
theorem hB_ov : hB T n a X (ov T n a X m) := fun _ hi => ov_at hi
theorem hB_other {T' : bTab} {n' a' : Nat} {X' : bX} (h : hB T' n' a' X' m) (hd : a' + n' ≤ a ∨ a + n ≤ a') : hB T' n' a' X' (ov T n a X m) := fun i hi => by
  rw [ov_out (by omega)]
  exact h i hi
theorem hB_mem {m' : dMem} (h : hB T n a X m) (he : ∀ i, i < n → m'.1 (a + i) = m.1 (a + i)) : hB T n a X m' := fun i hi => (he i hi).trans (h i hi)
theorem ov_upd {X' : bX} {o : dObj} (hi : i < n) (ho : bC T a X' i = o) (hj : ∀ j, j ≠ i → bC T a X' j = bC T a X j) : dUp (ov T n a X m) (a + i) o = ov T n a X' m := by
  refine Prod.ext (funext fun q => ?_) rfl
  show (if q = a + i then some o else (ov T n a X m).1 q) = (ov T n a X' m).1 q
  by_cases h : q = a + i
  · rw [if_pos h, h, ov_at hi, ho]
  · rw [if_neg h]
    by_cases h2 : a ≤ q ∧ q < a + n
    · have e : q = a + (q - a) := by omega
      rw [e, ov_at (by omega), ov_at (by omega), hj _ (by omega)]
    · rw [ov_out (by omega), ov_out (by omega)]
theorem bC_uA {g : sV} {j : Nat} (h : j ≠ i) : bC T a (uA X i g) j = bC T a X j := by
  have e : (uA X i g).1 j = X.1 j := uA_n h
  unfold bC bAr bFl
  rw [e]
  rfl
theorem bC_uL {g : Nat → Int64} {j : Nat} (h : j ≠ i) : bC T a (uL X i g) j = bC T a X j := by
  have e : (uL X i g).2 j = X.2 j := uL_n h
  unfold bC bAr bFl
  rw [e]
  rfl
theorem bAr_I {kd : Nat} (h1 : kd ≠ 1) (h5 : kd ≠ 5) : bAr T a X i kd = .inl (X.1 i) := by
  unfold bAr
  split <;> first | rfl | contradiction
theorem ov_isC {c : Nat} (hi : i < n) (h1 : T.1 i = c + 1) : isC (ov T n a X m) (a + i) c = true := by
  unfold isC
  rw [ov_at hi]
  simp only [bC, h1]
  exact Nat.beq_refl c
theorem ov_gI {c k : Nat} (hi : i < n) (h1 : T.1 i = c + 1) (h2 : T.2.1 i k = 0) : gI (ov T n a X m) (a + i) c k = some (X.1 i k) := by
  unfold gI
  rw [ov_at hi]
  simp only [bC, h1, bFl, h2, if_true]
theorem ov_gR {c k q : Nat} (hi : i < n) (h1 : T.1 i = c + 1) (h2 : T.2.1 i k = q + 1) : gR (ov T n a X m) (a + i) c k = some (a + q) := by
  unfold gR
  rw [ov_at hi]
  simp only [bC, h1, bFl, h2, if_true]
theorem ov_pI {e : dEnv} {c k : Nat} {x : Int32} (hi : i < n) (he : e.1 ≤ a) (h1 : T.1 i = c + 1) (h2 : T.2.1 i k = 0) : pI e (ov T n a X m) (a + i) c k x = some (ov T n a (uA X i (wr (X.1 i) k x)) m) := by
  unfold pI pV
  rw [ov_at hi]
  simp only [bC, h1]
  rw [if_pos ⟨trivial, by omega⟩]
  refine congrArg some (ov_upd hi ?_ (fun j hj => bC_uA hj))
  simp only [bC, h1]
  refine congrArg Sum.inr (Prod.ext rfl (funext fun j => ?_))
  show bFl T a (uA X i (wr (X.1 i) k x)) i j = if j = k then .int x else bFl T a X i j
  unfold bFl
  rw [uA_s]
  by_cases hjk : j = k
  · rw [if_pos hjk, hjk, h2]
    simp only [wr_s]
  · rw [if_neg hjk, wr_n hjk]
theorem ov_pZ {e : dEnv} {c k : Nat} {x : Bool} (hi : i < n) (he : e.1 ≤ a) (h1 : T.1 i = c + 1) (h2 : T.2.1 i k = 0) : pZ e (ov T n a X m) (a + i) c k (bI x) = some (ov T n a (uA X i (wr (X.1 i) k (bI x))) m) := by
  unfold pZ
  rw [if_pos (bI01 x)]
  exact ov_pI hi he h1 h2
theorem ov_aI {kd N j : Nat} (hi : i < n) (h1 : T.1 i = 0) (h2 : T.2.2.1 i = kd) (hk1 : kd ≠ 1) (hk5 : kd ≠ 5) (h3 : T.2.2.2 i = N) (hN : N ≤ 100000) (hj : j < N) : aI (ov T n a X m) kd (a + i) (Int32.ofNat j) = some (X.1 i j) := by
  unfold aI
  rw [ov_at hi]
  have e0 : (Int32.ofNat j).toInt = (j : Int) := nToI (by omega)
  simp only [bC, h1, h2, h3, bAr_I hk1 hk5, e0]
  rw [if_pos ⟨trivial, by omega, by omega⟩]
  rfl
theorem ov_aL {N j : Nat} (hi : i < n) (h1 : T.1 i = 0) (h2 : T.2.2.1 i = 1) (h3 : T.2.2.2 i = N) (hN : N ≤ 100000) (hj : j < N) : aL (ov T n a X m) 1 (a + i) (Int32.ofNat j) = some (X.2 i j) := by
  unfold aL
  rw [ov_at hi]
  have e0 : (Int32.ofNat j).toInt = (j : Int) := nToI (by omega)
  simp only [bC, h1, h2, h3, bAr, e0]
  rw [if_pos ⟨trivial, by omega, by omega⟩]
  rfl
theorem ov_aR {N j q : Nat} (hi : i < n) (h1 : T.1 i = 0) (h2 : T.2.2.1 i = 5) (h3 : T.2.2.2 i = N) (hN : N ≤ 100000) (hj : j < N) (hq : T.2.1 i j = q + 1) : aR (ov T n a X m) 5 (a + i) (Int32.ofNat j) = some (a + q) := by
  unfold aR
  rw [ov_at hi]
  have e0 : (Int32.ofNat j).toInt = (j : Int) := nToI (by omega)
  simp only [bC, h1, h2, h3, bAr, e0]
  rw [if_pos ⟨trivial, by omega, by omega⟩]
  show (match T.2.1 i ((j : Int).toNat) with | 0 => none | q + 1 => some (a + q)) = _
  rw [show ((j : Int).toNat) = j from rfl, hq]
theorem ov_aN {N : Nat} (hi : i < n) (h1 : T.1 i = 0) (h3 : T.2.2.2 i = N) : aN (ov T n a X m) (a + i) = some (Int32.ofNat N) := by
  unfold aN
  rw [ov_at hi]
  simp only [bC, h1, h3]
theorem ov_sI {e : dEnv} {kd N j : Nat} {x : Int32} (hi : i < n) (he : e.1 ≤ a) (h1 : T.1 i = 0) (h2 : T.2.2.1 i = kd) (hk1 : kd ≠ 1) (hk5 : kd ≠ 5) (h3 : T.2.2.2 i = N) (hN : N ≤ 100000) (hj : j < N) : sI e (ov T n a X m) kd (a + i) (Int32.ofNat j) x = some (ov T n a (uA X i (wr (X.1 i) j (cvI kd x))) m) := by
  unfold sI
  rw [ov_at hi]
  have e0 : (Int32.ofNat j).toInt = (j : Int) := nToI (by omega)
  simp only [bC, h1, h2, h3, bAr_I hk1 hk5, e0]
  rw [if_pos ⟨trivial, by omega, by omega, by omega⟩]
  refine congrArg some (ov_upd hi ?_ (fun j hj => bC_uA hj))
  simp only [bC, h1, h2, h3, bAr_I hk1 hk5, uA_s]
  rfl
theorem ov_sL {e : dEnv} {N j : Nat} {x : Int64} (hi : i < n) (he : e.1 ≤ a) (h1 : T.1 i = 0) (h2 : T.2.2.1 i = 1) (h3 : T.2.2.2 i = N) (hN : N ≤ 100000) (hj : j < N) : sL e (ov T n a X m) 1 (a + i) (Int32.ofNat j) x = some (ov T n a (uL X i (dFun (X.2 i) j x)) m) := by
  unfold sL
  rw [ov_at hi]
  have e0 : (Int32.ofNat j).toInt = (j : Int) := nToI (by omega)
  simp only [bC, h1, h2, h3, bAr, e0]
  rw [if_pos ⟨trivial, by omega, by omega, by omega⟩]
  refine congrArg some (ov_upd hi ?_ (fun j hj => bC_uL hj))
  simp only [bC, h1, h2, h3, bAr, uL_s]
  rfl
/-- a copy into the block -/
theorem ov_cp {e : dEnv} {kd N N' b sp dp k : Nat} {f : sV} (hi : i < n) (he : e.1 ≤ a) (h1 : T.1 i = 0) (h2 : T.2.2.1 i = kd) (hk : kd = 0 ∨ kd = 3) (h3 : T.2.2.2 i = N) (hN : N ≤ 100000) (hN' : N' ≤ 100000) (hsrc : (ov T n a X m).1 b = some (.inl (kd, N', .inl f))) (hs : sp + k ≤ N') (hd : dp + k ≤ N) : aCp e (ov T n a X m) b (Int32.ofNat sp) (a + i) (Int32.ofNat dp) (Int32.ofNat k) = some (ov T n a (uA X i (dCp f (X.1 i) sp dp k)) m) := by
  unfold aCp
  have hk1 : kd ≠ 1 := by omega
  have hk5 : kd ≠ 5 := by omega
  rw [hsrc, ov_at hi]
  have e0 : (Int32.ofNat sp).toInt = (sp : Int) := nToI (by omega)
  have e1 : (Int32.ofNat dp).toInt = (dp : Int) := nToI (by omega)
  have e2 : (Int32.ofNat k).toInt = (k : Int) := nToI (by omega)
  simp only [bC, h1, h2, h3, bAr_I hk1 hk5, e0, e1, e2]
  rw [if_pos ⟨trivial, hk, by omega, by omega, by omega, by omega, by omega, by omega⟩]
  refine congrArg some (ov_upd hi ?_ (fun j hj => bC_uA hj))
  simp only [bC, h1, h2, h3, bAr_I hk1 hk5, uA_s]
  rfl
theorem ov_cpL {e : dEnv} {N N' b sp dp k : Nat} {f : Nat → Int64} (hi : i < n) (he : e.1 ≤ a) (h1 : T.1 i = 0) (h2 : T.2.2.1 i = 1) (h3 : T.2.2.2 i = N) (hN : N ≤ 100000) (hN' : N' ≤ 100000) (hsrc : (ov T n a X m).1 b = some (.inl (1, N', .inr (.inl f)))) (hs : sp + k ≤ N') (hd : dp + k ≤ N) : aCp e (ov T n a X m) b (Int32.ofNat sp) (a + i) (Int32.ofNat dp) (Int32.ofNat k) = some (ov T n a (uL X i (dCp f (X.2 i) sp dp k)) m) := by
  unfold aCp
  rw [hsrc, ov_at hi]
  have e0 : (Int32.ofNat sp).toInt = (sp : Int) := nToI (by omega)
  have e1 : (Int32.ofNat dp).toInt = (dp : Int) := nToI (by omega)
  have e2 : (Int32.ofNat k).toInt = (k : Int) := nToI (by omega)
  simp only [bC, h1, h2, h3, bAr, e0, e1, e2]
  rw [if_pos ⟨trivial, trivial, by omega, by omega, by omega, by omega, by omega, by omega⟩]
  refine congrArg some (ov_upd hi ?_ (fun j hj => bC_uL hj))
  simp only [bC, h1, h2, h3, bAr, uL_s]
  rfl
end OV
theorem cvI0 (x : Int32) : cvI 0 x = x := rfl
theorem cvI4 (b : Bool) : cvI 4 (bI b) = bI b := by cases b <;> decide +kernel
end

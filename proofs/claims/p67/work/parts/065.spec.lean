/-! ===== an archive's numbers as the reference keeps them (row s: what changes; row h: what was told), and what is asked of them: pure functions ===== -/
noncomputable section
def nN (x : Int32) : Nat := x.toInt.toNat
theorem nN_o {a : Nat} (h : a < 2147483648) : nN (Int32.ofNat a) = a := nToN h
def okI (lo hi : Nat) (x : Int32) : Prop := x = Int32.ofNat (nN x) ∧ lo ≤ nN x ∧ nN x ≤ hi
theorem okI_of {lo hi a : Nat} (h1 : lo ≤ a) (h2 : a ≤ hi) (h : a < 2147483648) : okI lo hi (Int32.ofNat a) := by
  unfold okI
  rw [nN_o h]
  exact ⟨rfl, h1, h2⟩
theorem okI.mono {lo hi lo' hi' : Nat} {x : Int32} (h : okI lo hi x) (h1 : lo' ≤ nN x) (h2 : nN x ≤ hi') : okI lo' hi' x := ⟨h.1, h1, h2⟩
def nbS (s : sV) : Nat := nN (s 1)
def nlS (s : sV) : Nat := nN (s 2)
def bx (s : sV) (k f : Nat) : Int32 := s (27 + 12 * k + f)
def lay (s : sV) (k f : Nat) (x : Int32) : sV := wr s (27 + 12 * k + f) x
def mkN (h : sV) : Nat := nN (h 0) * nN (h 1)
def boxOnS (s : sV) (x : Int32) : Int32 := fI (nbS s) fun k => decide (bx s k 4 = x)
def frB (s : sV) (q : Nat) : Bool := decide (boxOnS s (Int32.ofNat q) = nM1)
def fstS (s h : sV) : Int32 := fI (mkN h) (frB s)
def freS (s h : sV) : Nat := cnt (frB s) (mkN h)
def gonB (s : sV) (k : Nat) : Bool := decide (bx s k 7 = Int32.ofNat 1)
def selB (s : sV) (k : Nat) : Bool := !decide (bx s k 3 < s 0)
def clN (s : sV) (k : Nat) : Nat := nN (bx s k 0)
def dueS (s h : sV) (k : Nat) : Int32 := bx s k 1 + h (94 + clN s k) + bx s k 2 + Int32.ofNat 1
def forB (s h : sV) (k : Nat) : Bool := decide (h (110 + clN s k) = Int32.ofNat 1)
def hinS (s h : sV) (k : Nat) : Int32 := if gonB s k = true then Int32.ofNat 1 else if forB s h k = true then Int32.ofNat 2 else if s 0 < dueS s h k then Int32.ofNat 3 else if selB s k = true then Int32.ofNat 4 else if bx s k 5 = nM1 then Int32.ofNat 0 else Int32.ofNat 5
def mayB (s h : sV) (k : Nat) : Bool := decide (hinS s h k = Int32.ofNat 0) || decide (hinS s h k = Int32.ofNat 5)
def isLB (s : sV) (x : Int32) : Bool := anyB (nlS s) fun k => decide (s (3 + k) = x)
/-- the first to be listed: least due year, then least number -/
def ftlK (s h : sV) : Nat → Option Nat
  | 0 => none
  | k + 1 => bif mayB s h k && !isLB s (Int32.ofNat k) then (match ftlK s h k with
    | none => some k
    | some j => if dueS s h k < dueS s h j then some k else some j) else ftlK s h k
theorem ftlK_lt {s h : sV} : ∀ {k j : Nat}, ftlK s h k = some j → j < k
  | 0, _, q => by cases q
  | k + 1, j, q => by
    unfold ftlK at q
    cases hc : (mayB s h k && !isLB s (Int32.ofNat k)) with
    | false => rw [hc] at q; have := ftlK_lt (k := k) q; omega
    | true =>
      rw [hc] at q
      simp only [cond_true] at q
      cases hk : ftlK s h k with
      | none => rw [hk] at q; cases q; omega
      | some i =>
        have := ftlK_lt hk
        rw [hk] at q
        simp only at q
        split at q
        · cases q; omega
        · cases q; omega
def addL (s : sV) (k : Nat) : sV := wr (wr s (3 + nlS s) (Int32.ofNat k)) 2 (Int32.ofNat (nlS s + 1))
def lisK (h : sV) : Nat → sV → sV
  | 0, s => s
  | t + 1, s => match ftlK s h (nbS s) with
    | none => s
    | some k => lisK h t (addL s k)
def listsS (s h : sV) : sV := lisK h 24 (wr s 2 (Int32.ofNat 0))
def stkF (x : Int32) (k : Nat) (p : Nat × sV) : Nat × sV := if p.2 (3 + k) = x then p else (p.1 + 1, wr p.2 (3 + p.1) (p.2 (3 + k)))
def stkS (s : sV) (k : Nat) (y : Int32) : sV :=
  let p := upF (stkF (Int32.ofNat k)) (nlS s) (0, s)
  let s2 := wr p.2 2 (Int32.ofNat p.1)
  lay s2 k 2 (bx s2 k 2 + y)
def endS (s : sV) (k : Nat) : sV := lay (lay (lay (lay s k 7 (Int32.ofNat 1)) k 4 nM1) k 3 (Int32.ofNat 0)) k 8 (Int32.ofNat 0)
def aprF (h : sV) (k : Nat) (p : Nat × sV) : Nat × sV := if hinS p.2 h (nN (p.2 (3 + k))) = Int32.ofNat 0 then (p.1 + 1, endS p.2 (nN (p.2 (3 + k)))) else p
def aprP (s h : sV) : Nat × sV := upF (aprF h) (nlS s) (0, s)
def aprN (s h : sV) : Nat := (aprP s h).1
def aprS (s h : sV) : sV := wr (aprP s h).2 2 (Int32.ofNat 0)
def lonN (s : sV) (r : Int32) : Nat := cnt (fun k => decide (bx s k 5 = r)) (nbS s)
def mayH (s h : sV) (r : Int32) : Bool := decide (Int32.ofNat (lonN s r) < h (40 + nN r))
def wtB (s : sV) (r : Int32) (k : Nat) : Bool := anyB (nN (bx s k 8)) fun i => decide (bx s k (9 + i) = r)
def obsS (s h : sV) (r : Int32) (k : Nat) : Int32 := if gonB s k = true then Int32.ofNat 1 else if selB s k = true then Int32.ofNat 2 else if bx s k 1 + h (102 + clN s k) < s 0 then (if bx s k 5 = r then Int32.ofNat 4 else if wtB s r k = true then Int32.ofNat 4 else if bx s k 8 = Int32.ofNat 3 then Int32.ofNat 5 else Int32.ofNat 0) else Int32.ofNat 3
def lndS (s : sV) (k : Nat) (r : Int32) : sV := lay (lay s k 5 r) k 6 (s 0)
def reqB (s h : sV) (r : Int32) (k : Nat) : Bool := decide (bx s k 5 = nM1) && mayH s h r
def queS (s : sV) (r : Int32) (k : Nat) : sV := lay (lay s k (9 + nN (bx s k 8)) r) k 8 (Int32.ofNat (nN (bx s k 8) + 1))
def reqS (s h : sV) (r : Int32) (k : Nat) : sV := bif reqB s h r k then lndS s k r else queS s r k
def shfF (k p i : Nat) (s : sV) : sV := lay s k (9 + (p + i)) (bx s k (9 + (p + i) + 1))
def lvS (s : sV) (k p : Nat) : sV := upF (shfF k p) (nN (bx s k 8) - 1 - p) (lay s k 8 (Int32.ofNat (nN (bx s k 8) - 1)))
def srvS (s h : sV) (k : Nat) : sV := bif gonB s k || selB s k || !decide (bx s k 5 = nM1) then s else (match fnd (nN (bx s k 8)) (fun i => mayH s h (bx s k (9 + i))) with
  | none => s
  | some i => lndS (lvS s k i) k (bx s k (9 + i)))
def gbkS (s h : sV) (k : Nat) : sV := srvS (lay s k 5 nM1) h k
def eolF (k : Nat) (s : sV) : sV := bif !decide (bx s k 5 = nM1) && !decide (s 0 - bx s k 6 < Int32.ofNat 2) then lay s k 5 nM1 else s
def srvF (h : sV) (k : Nat) (s : sV) : sV := srvS s h k
def pasS (s h : sV) : sV :=
  let s1 := wr s 0 (s 0 + Int32.ofNat 1)
  let s2 := upF eolF (nbS s) s1
  upF (srvF h) (nbS s) s2
def yrsS (h : sV) : Nat → sV → sV
  | 0, s => s
  | n + 1, s => pasS (yrsS h n s) h
def newS (s : sV) (c y q : Int32) : sV :=
  let k := nbS s
  wr (lay (lay (lay (lay (upF (fun f s => lay s k f (Int32.ofNat 0)) 12 s) k 0 c) k 1 y) k 4 q) k 5 nM1) 1 (Int32.ofNat (k + 1))
def gonN (s : sV) : Int32 := sumI (fun k => bx s k 7) (nbS s)
def lntN (s : sV) : Nat := cnt (fun k => !decide (bx s k 5 = nM1)) (nbS s)
def desN (s h : sV) : Nat := cnt (fun k => decide (hinS s h k = Int32.ofNat 0)) (nbS s)
def clrS (s h : sV) : sV := aprS (listsS (pasS s h) h) h
/-! what holds of the rows -/
def WN (h : sV) (p : Nat) : Prop := (∀ i, i < 6 → okI 0 127 (h (p + i))) ∧ h p ≠ Int32.ofNat 0 ∧ ∀ i, i < 5 → h (p + i) = Int32.ofNat 0 → h (p + (i + 1)) = Int32.ofNat 0
def WH (h : sV) : Prop := okI 1 6 (h 0) ∧ okI 1 8 (h 1) ∧ okI 0 8 (h 2) ∧ okI 0 6 (h 3) ∧ (∀ c, c < nN (h 2) → okI 1 50 (h (94 + c)) ∧ okI 0 50 (h (102 + c)) ∧ okI 0 1 (h (110 + c)) ∧ WN h (46 + 6 * c)) ∧ ∀ r, r < nN (h 3) → okI 0 4 (h (40 + r)) ∧ WN h (4 + 6 * r)
def WB (h s : sV) (k : Nat) : Prop :=
  okI 0 7 (bx s k 0) ∧ clN s k < nN (h 2) ∧
  okI 1800 (nN (s 0)) (bx s k 1) ∧ (bx s k 2 = Int32.ofNat 0 ∨ okI 0 1000000 (bx s k 2) ∧ nN (bx s k 1) + nN (h (94 + clN s k)) + nN (bx s k 2) + 1 ≤ nN (s 0) + 20) ∧
  (bx s k 4 = nM1 ∧ bx s k 7 = Int32.ofNat 1 ∨ okI 0 47 (bx s k 4) ∧ nN (bx s k 4) < mkN h ∧ bx s k 7 = Int32.ofNat 0) ∧
  (bx s k 5 = nM1 ∨ okI 0 5 (bx s k 5) ∧ nN (bx s k 5) < nN (h 3)) ∧
  okI 0 3 (bx s k 8) ∧ ∀ i, i < nN (bx s k 8) → okI 0 5 (bx s k (9 + i)) ∧ nN (bx s k (9 + i)) < nN (h 3)
def WL (h s : sV) : Prop := (∀ i, i < nlS s → okI 0 23 (s (3 + i)) ∧ nN (s (3 + i)) < nbS s ∧ dueS s h (nN (s (3 + i))) ≤ s 0) ∧ ∀ i j, i < j → j < nlS s → s (3 + i) ≠ s (3 + j)
def WS (Y : Nat) (h s : sV) : Prop := okI 0 24 (s 1) ∧ okI 0 24 (s 2) ∧ okI 1800 Y (s 0) ∧ (∀ k, k < nbS s → WB h s k) ∧ WL h s
theorem bx_lay {s : sV} {k f k' f' : Nat} {x : Int32} (h1 : f < 12) (h2 : f' < 12) : bx (lay s k f x) k' f' = if k' = k ∧ f' = f then x else bx s k' f' := by
  unfold bx lay wr
  by_cases h : k' = k ∧ f' = f
  · rw [if_pos h, h.1, h.2, if_pos rfl]
  · rw [if_neg h, if_neg (by omega)]
theorem lay_lo {s : sV} {k f j : Nat} {x : Int32} (h : j < 27) : lay s k f x j = s j := wr_n (by omega)
theorem bx_wr {s : sV} {k f j : Nat} {x : Int32} (h : j < 27) : bx (wr s j x) k f = bx s k f := wr_n (by omega)
end

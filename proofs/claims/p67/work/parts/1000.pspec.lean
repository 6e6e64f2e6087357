/-! ===== tokens, and what a text says: pure functions ===== -/
noncomputable section
/-- bytes, kinds, places, lengths; how many tokens; the text's length -/
abbrev dTok : Type := (Nat → Nat) × (Nat → Nat) × (Nat → Nat) × (Nat → Nat) × Nat × Nat
def tB (T : dTok) : Nat → Nat := T.1
def tK (T : dTok) : Nat → Nat := T.2.1
def tPl (T : dTok) : Nat → Nat := T.2.2.1
def tL (T : dTok) : Nat → Nat := T.2.2.2.1
def tN (T : dTok) : Nat := T.2.2.2.2.1
def tE (T : dTok) : Nat := T.2.2.2.2.2
def ck (c : Nat) : Nat := if 97 ≤ c ∧ c ≤ 122 then 1 else if 48 ≤ c ∧ c ≤ 57 then 2 else if c = 59 ∨ c = 40 ∨ c = 41 then c else if c = 32 then 3 else 4
def TOK (T : dTok) : Prop := (1 ≤ tN T ∧ tN T ≤ tE T + 1 ∧ tE T ≤ 600 ∧ tK T (tN T - 1) = 0 ∧ tPl T (tN T - 1) = tE T ∧ tL T (tN T - 1) = 1) ∧
  (∀ i, i + 1 < tN T → (tK T i = 1 ∨ tK T i = 2 ∨ tK T i = 59 ∨ tK T i = 40 ∨ tK T i = 41 ∨ tK T i = 4) ∧ 1 ≤ tL T i ∧ tPl T i + tL T i ≤ tE T ∧ (∀ j, j < tL T i → ck (tB T (tPl T i + j)) = tK T i) ∧ (tK T i ≠ 1 → tK T i ≠ 2 → tL T i = 1) ∧ tPl T i + tL T i ≤ tPl T (i + 1) ∧ (∀ j, tPl T i + tL T i ≤ j → j < tPl T (i + 1) → tB T j = 32) ∧ (tK T i = 1 ∨ tK T i = 2 → tPl T i + tL T i < tE T → ck (tB T (tPl T i + tL T i)) ≠ tK T i)) ∧
  (∀ j, j < tPl T 0 → tB T j = 32) ∧ ∀ j, tB T j < 256
def kd (T : dTok) (c : Nat) : Nat := if tK T c = 1 ∧ 7 < tL T c ∨ tK T c = 2 ∧ 4 < tL T c then 4 else tK T c
def vlK (T : dTok) (c : Nat) : Nat → Nat
  | 0 => 0
  | j + 1 => vlK T c j * 10 + (tB T (tPl T c + j) - 48)
def vl (T : dTok) (c : Nat) : Nat := vlK T c (tL T c)
def nx (T : dTok) (c : Nat) : Nat := if c + 1 < tN T then c + 1 else c
def isW (T : dTok) (c : Nat) (w : List Nat) : Bool := decide (tK T c = 1) && (decide (tL T c = w.length) && !anyB w.length fun j => !decide (tB T (tPl T c + j) = w.getD j 0))
def nmL (T : dTok) (c i : Nat) : Int32 := if i < tL T c then Int32.ofNat (tB T (tPl T c + i)) else Int32.ofNat 0
def hasN (T : dTok) (c : Nat) (h : sV) (p many : Nat) : Bool := anyB many fun k => !anyB 6 fun i => !decide (h (p + 6 * k + i) = nmL T c i)
def nmW (T : dTok) (c : Nat) (h : sV) (p : Nat) : sV := fun q => if p ≤ q ∧ q < p + 6 then nmL T c (q - p) else h q
/-- the words, by the numbers of the text constants -/
def wl : List (List Nat) := [[97, 114, 99, 104, 105, 118, 101], [99, 108, 97, 115, 115], [98, 111, 120], [114, 101, 97, 100, 101, 114], [115, 101, 97, 108], [114, 101, 113, 117, 101, 115, 116], [98, 97, 99, 107], [109, 111, 118, 101], [108, 105, 115, 116], [115, 116, 114, 105, 107, 101], [97, 112, 112, 114, 111, 118, 101], [112, 97, 115, 115], [114, 101, 112, 101, 97, 116], [102, 111, 114, 101, 118, 101, 114], [97, 116], [97, 114, 99, 104, 105, 118, 101, 32], [59, 99, 108, 97, 115, 115, 32], [32, 102, 111, 114, 101, 118, 101, 114], [], [59, 114, 101, 97, 100, 101, 114, 32], [59, 98, 111, 120, 32], [32, 97, 116, 32], [59, 112, 97, 115, 115, 32], [59, 115, 101, 97, 108, 32], [59, 114, 101, 113, 117, 101, 115, 116, 32], [59, 108, 105, 115, 116], [59, 97, 112, 112, 114, 111, 118, 101], [59, 114, 101, 112, 101, 97, 116, 32], [40, 108, 105, 115, 116, 59, 112, 97, 115, 115, 32, 49, 41], [107], [99, 108, 97, 115, 115], [114], [114, 101, 97, 100, 101, 114], [32], [], [45]]
def wd (k : Nat) : List Nat := wl.getD k []
abbrev dErr : Type := Nat × Nat
/-- the token that was read last, the rows, the years told -/
abbrev pSt : Type := Nat × sV × sV × Nat
abbrev pRs : Type := dErr ⊕ pSt
def pBn {α β : Type} (r : dErr ⊕ α) (f : α → dErr ⊕ β) : dErr ⊕ β := match r with
  | .inl x => .inl x
  | .inr a => f a
def pC {β : Type} (b : Bool) (k c : Nat) (r : dErr ⊕ β) : dErr ⊕ β := bif b then r else .inl (k, c)
theorem pB_r {α β : Type} (a : α) (f : α → dErr ⊕ β) : pBn (.inr a) f = f a := rfl
theorem pB_l {α β : Type} (x : dErr) (f : α → dErr ⊕ β) : pBn (.inl x) f = .inl x := rfl
theorem pC_t {β : Type} (k c : Nat) (r : dErr ⊕ β) : pC true k c r = r := rfl
theorem pC_f {β : Type} (k c : Nat) (r : dErr ⊕ β) : pC false k c r = .inl (k, c) := rfl
def pNum (T : dTok) (c lo : Nat) (hi : Int) : dErr ⊕ Nat := pC (decide (kd T c = 2)) 1 c (pC (decide (lo ≤ vl T c) && decide ((vl T c : Int) ≤ hi)) 2 c (.inr (vl T c)))
def pName (T : dTok) (c : Nat) (h : sV) (p many : Nat) : dErr ⊕ Unit := pC (decide (kd T c = 1)) 1 c (pC (!decide (6 < tL T c) && !hasN T c h p many) 3 c (.inr ()))
/-- a place, behind the token c: its mark, the place's token -/
def pFree (T : dTok) (c : Nat) (s h : sV) : dErr ⊕ (Nat × Nat) := pBn (pNum T (nx T c) 0 ((nN (h 0) : Int) - 1)) fun i => pBn (pNum T (nx T (nx T c)) 0 ((nN (h 1) : Int) - 1)) fun j => pC (decide (boxOnS s (Int32.ofNat (i * nN (h 1) + j)) = nM1)) 3 (nx T (nx T c)) (.inr (i * nN (h 1) + j, nx T (nx T c)))
def pBox (T : dTok) (c : Nat) (s : sV) : dErr ⊕ Nat := pNum T c 0 ((nbS s : Int) - 1)
def pKept (T : dTok) (c : Nat) (s : sV) : dErr ⊕ Nat := pBn (pBox T c s) fun k => pC (!gonB s k) 3 c (.inr k)
def clsH (T : dTok) (c : Nat) (h : sV) (p q f : Nat) : sV := wr (wr (wr (wr (nmW T c h (46 + 6 * nN (h 2))) (94 + nN (h 2)) (Int32.ofNat p)) (102 + nN (h 2)) (Int32.ofNat q)) (110 + nN (h 2)) (Int32.ofNat f)) 2 (Int32.ofNat (nN (h 2) + 1))
def pClass (T : dTok) : pSt → pRs := fun (c, s, h, y) => pC (!decide (nN (h 2) = 8)) 4 c (pBn (pName T (nx T c) h 46 (nN (h 2))) fun _ => pBn (pNum T (nx T (nx T c)) 1 50) fun p => pBn (pNum T (nx T (nx T (nx T c))) 0 50) fun q =>
  bif isW T (nx T (nx T (nx T (nx T c)))) (wd 13) then .inr (nx T (nx T (nx T (nx T c))), s, clsH T (nx T c) h p q 1, y) else .inr (nx T (nx T (nx T c)), s, clsH T (nx T c) h p q 0, y))
def pNew (T : dTok) : pSt → pRs := fun (c, s, h, y) => pC (decide (nbS s < 24) && !decide (fstS s h = nM1)) 4 c (pBn (pNum T (nx T c) 0 ((nN (h 2) : Int) - 1)) fun p => pBn (pNum T (nx T (nx T c)) 1800 (nN (s 0))) fun q =>
  bif isW T (nx T (nx T (nx T c))) (wd 14) then pBn (pFree T (nx T (nx T (nx T c))) s h) fun r => .inr (r.2, newS s (Int32.ofNat p) (Int32.ofNat q) (Int32.ofNat r.1), h, y) else .inr (nx T (nx T c), newS s (Int32.ofNat p) (Int32.ofNat q) (fstS s h), h, y))
def rdrH (T : dTok) (c : Nat) (h : sV) (p : Nat) : sV := wr (wr (nmW T c h (4 + 6 * nN (h 3))) (40 + nN (h 3)) (Int32.ofNat p)) 3 (Int32.ofNat (nN (h 3) + 1))
def pReader (T : dTok) : pSt → pRs := fun (c, s, h, y) => pC (!decide (nN (h 3) = 6)) 4 c (pBn (pName T (nx T c) h 4 (nN (h 3))) fun _ => pBn (pNum T (nx T (nx T c)) 1 4) fun p => .inr (nx T (nx T c), s, rdrH T (nx T c) h p, y))
def pSeal (T : dTok) : pSt → pRs := fun (c, s, h, y) => pBn (pKept T (nx T c) s) fun k => pBn (pNum T (nx T (nx T c)) (nN (s 0)) 9999) fun v => .inr (nx T (nx T c), lay s k 3 (Int32.ofNat v), h, y)
def pReq (T : dTok) : pSt → pRs := fun (c, s, h, y) => pBn (pNum T (nx T c) 0 ((nN (h 3) : Int) - 1)) fun r => pBn (pBox T (nx T (nx T c)) s) fun k => pC (decide (obsS s h (Int32.ofNat r) k = Int32.ofNat 0)) 3 (nx T (nx T c)) (.inr (nx T (nx T c), reqS s h (Int32.ofNat r) k, h, y))
def pBack (T : dTok) : pSt → pRs := fun (c, s, h, y) => pBn (pBox T (nx T c) s) fun k => pC (!decide (bx s k 5 = nM1)) 3 (nx T c) (.inr (nx T c, gbkS s h k, h, y))
def pMove (T : dTok) : pSt → pRs := fun (c, s, h, y) => pBn (pKept T (nx T c) s) fun k => pBn (pFree T (nx T c) s h) fun r => .inr (r.2, lay s k 4 (Int32.ofNat r.1), h, y)
def pStrike (T : dTok) : pSt → pRs := fun (c, s, h, y) => pBn (pBox T (nx T c) s) fun k => pC (isLB s (Int32.ofNat k)) 3 (nx T c) (pBn (pNum T (nx T (nx T c)) 1 20) fun v => .inr (nx T (nx T c), stkS s k (Int32.ofNat v), h, y))
def pPass (T : dTok) : pSt → pRs := fun (c, s, h, y) => pBn (pNum T (nx T c) 1 50) fun v => pC (!decide (500 < y + v)) 4 (nx T c) (.inr (nx T c, yrsS h v s, h, y + v))
def pRep (T : dTok) (rp : Nat → Nat → pSt → pRs) (dp : Bool) : pSt → pRs := fun (c, s, h, y) => pC dp 4 c (pBn (pNum T (nx T c) 1 9) fun t => pC (decide (kd T (nx T (nx T c)) = 40)) 1 (nx T (nx T c)) (rp t (nx T (nx T c)) (nx T (nx T c), s, h, y)))
def lineP (T : dTok) (rp : Nat → Nat → pSt → pRs) (dp : Bool) (st : pSt) : pRs :=
  if isW T st.1 (wd 1) = true then pClass T st else if isW T st.1 (wd 2) = true then pNew T st else if isW T st.1 (wd 3) = true then pReader T st else if isW T st.1 (wd 4) = true then pSeal T st else if isW T st.1 (wd 5) = true then pReq T st else if isW T st.1 (wd 6) = true then pBack T st else if isW T st.1 (wd 7) = true then pMove T st else if isW T st.1 (wd 8) = true then .inr (st.1, listsS st.2.1 st.2.2.1, st.2.2) else if isW T st.1 (wd 9) = true then pStrike T st else if isW T st.1 (wd 10) = true then .inr (st.1, aprS st.2.1 st.2.2.1, st.2.2) else if isW T st.1 (wd 11) = true then pPass T st else pC (isW T st.1 (wd 12)) 1 st.1 (pRep T rp dp st)
/-- lines behind the token st.1, up to the first token behind a line that is no semicolon -/
def lnsP (T : dTok) (f : pSt → pRs) : Nat → pSt → pRs
  | 0, st => .inr st
  | k + 1, st => pBn (f (nx T st.1, st.2)) fun st' => bif decide (kd T (nx T st'.1) = 59) then lnsP T f k (nx T st'.1, st'.2) else .inr (nx T st'.1, st'.2)
def repP (T : dTok) (f : pSt → pRs) : Nat → Nat → pSt → pRs
  | 0, _, st => .inr st
  | t + 1, b, st => pBn (lnsP T f 600 (b, st.2)) fun st' => pC (decide (kd T st'.1 = 41)) 1 st'.1 (repP T f t b st')
def lineX (T : dTok) : Nat → pSt → pRs
  | 0 => lineP T (fun _ _ st => .inr st) false
  | r + 1 => lineP T (repP T (lineX T r)) true
def zrF (n : Nat) (f : sV) : sV := fun k => if k < n then Int32.ofNat 0 else f k
def headP (T : dTok) (sj hj : sV) : dErr ⊕ pSt := pC (isW T 0 (wd 0)) 1 0 (pBn (pNum T (nx T 0) 1900 2500) fun yr => pBn (pNum T (nx T (nx T 0)) 1 6) fun p => pBn (pNum T (nx T (nx T (nx T 0))) 1 8) fun q =>
  .inr (nx T (nx T (nx T (nx T 0))), wr (zrF 315 sj) 0 (Int32.ofNat yr), wr (wr (zrF 118 hj) 0 (Int32.ofNat p)) 1 (Int32.ofNat q), 0))
def textP (T : dTok) (sj hj : sV) : pRs := pBn (headP T sj hj) fun st => pBn (bif decide (kd T st.1 = 59) then lnsP T (lineX T 2) 600 st else .inr st) fun st' => pC (decide (kd T st'.1 = 0)) 1 st'.1 (.inr st')
end

/-! ===== an interpreter of the program's decoded code over an abstract memory: addresses to typed cells ===== -/
abbrev dArr : Type := (Nat → Int32) ⊕ (Nat → Int64) ⊕ (Nat → UInt64) ⊕ (Nat → Option Nat)
/-- an array: kind, length, contents; an object: class number, fields -/
abbrev dObj : Type := (Nat × Nat × dArr) ⊕ (Nat × (Nat → Value))
/-- cells, the heap's size, slots made so far -/
abbrev dMem : Type := (Nat → Option dObj) × Nat × Nat
/-- an answer or the number of an exception's class; the memory behind it -/
abbrev dRes : Type := (Option Value ⊕ Nat) × dMem
/-- the first address of the run's own cells; addresses of constants -/
abbrev dEnv : Type := Nat × (Nat → Nat)
abbrev dLs : Type := List (Option Value)
def dUp (m : dMem) (a : Nat) (o : dObj) : dMem := (fun q => if q = a then some o else m.1 q, m.2)
def gI (m : dMem) (a c k : Nat) : Option Int32 := match m.1 a with
  | some (.inr (c', f)) => if c' = c then (match f k with | .int x => some x | _ => none) else none
  | _ => none
def gR (m : dMem) (a c k : Nat) : Option Nat := match m.1 a with
  | some (.inr (c', f)) => if c' = c then (match f k with | .ref x => some x | _ => none) else none
  | _ => none
def pV (e : dEnv) (m : dMem) (a c k : Nat) (v : Value) : Option dMem := match m.1 a with
  | some (.inr (c', f)) => if c' = c ∧ e.1 ≤ a then some (dUp m a (.inr (c, fun j => if j = k then v else f j))) else none
  | _ => none
def pI (e : dEnv) (m : dMem) (a c k : Nat) (x : Int32) : Option dMem := pV e m a c k (.int x)
def pZ (e : dEnv) (m : dMem) (a c k : Nat) (x : Int32) : Option dMem := if x = 0 ∨ x = 1 then pV e m a c k (.int x) else none
def pB (e : dEnv) (m : dMem) (a c k : Nat) (x : Int32) : Option dMem := if x.toInt8.toInt32 = x then pV e m a c k (.int x) else none
def pR (e : dEnv) (m : dMem) (a c k : Nat) (q : Nat) : Option dMem := pV e m a c k (.ref q)
def aI (m : dMem) (kd a : Nat) (i : Int32) : Option Int32 := match m.1 a with
  | some (.inl (k', n, .inl f)) => if k' = kd ∧ 0 ≤ i.toInt ∧ i.toInt < n then some (f i.toInt.toNat) else none
  | _ => none
def aL (m : dMem) (kd a : Nat) (i : Int32) : Option Int64 := match m.1 a with
  | some (.inl (k', n, .inr (.inl f))) => if k' = kd ∧ 0 ≤ i.toInt ∧ i.toInt < n then some (f i.toInt.toNat) else none
  | _ => none
def aD (m : dMem) (kd a : Nat) (i : Int32) : Option UInt64 := match m.1 a with
  | some (.inl (k', n, .inr (.inr (.inl f)))) => if k' = kd ∧ 0 ≤ i.toInt ∧ i.toInt < n then some (f i.toInt.toNat) else none
  | _ => none
def aR (m : dMem) (kd a : Nat) (i : Int32) : Option Nat := match m.1 a with
  | some (.inl (k', n, .inr (.inr (.inr f)))) => if k' = kd ∧ 0 ≤ i.toInt ∧ i.toInt < n then f i.toInt.toNat else none
  | _ => none
/-- what an array of a small kind keeps -/
def cvI (kd : Nat) (x : Int32) : Int32 := if kd = 3 then x.toInt8.toInt32 else if kd = 4 then x &&& 1 else x
def dFun {α : Type} (f : Nat → α) (i : Nat) (x : α) : Nat → α := fun j => if j = i then x else f j
def sI (e : dEnv) (m : dMem) (kd a : Nat) (i x : Int32) : Option dMem := match m.1 a with
  | some (.inl (k', n, .inl f)) => if k' = kd ∧ e.1 ≤ a ∧ 0 ≤ i.toInt ∧ i.toInt < n then some (dUp m a (.inl (kd, n, .inl (dFun f i.toInt.toNat (cvI kd x))))) else none
  | _ => none
def sL (e : dEnv) (m : dMem) (kd a : Nat) (i : Int32) (x : Int64) : Option dMem := match m.1 a with
  | some (.inl (k', n, .inr (.inl f))) => if k' = kd ∧ e.1 ≤ a ∧ 0 ≤ i.toInt ∧ i.toInt < n then some (dUp m a (.inl (kd, n, .inr (.inl (dFun f i.toInt.toNat x))))) else none
  | _ => none
def sD (e : dEnv) (m : dMem) (kd a : Nat) (i : Int32) (x : UInt64) : Option dMem := match m.1 a with
  | some (.inl (k', n, .inr (.inr (.inl f)))) => if k' = kd ∧ e.1 ≤ a ∧ 0 ≤ i.toInt ∧ i.toInt < n then some (dUp m a (.inl (kd, n, .inr (.inr (.inl (dFun f i.toInt.toNat x)))))) else none
  | _ => none
def isC (m : dMem) (a c : Nat) : Bool := match m.1 a with
  | some (.inr (c', _)) => Nat.beq c' c
  | _ => false
def sR (e : dEnv) (m : dMem) (kd a : Nat) (i : Int32) (x : Nat) (c : Nat) : Option dMem := match m.1 a with
  | some (.inl (k', n, .inr (.inr (.inr f)))) => if k' = kd ∧ e.1 ≤ a ∧ 0 ≤ i.toInt ∧ i.toInt < n ∧ isC m x c = true then some (dUp m a (.inl (kd, n, .inr (.inr (.inr (dFun f i.toInt.toNat (some x))))))) else none
  | _ => none
def aN (m : dMem) (a : Nat) : Option Int32 := match m.1 a with
  | some (.inl (_, n, _)) => some (Int32.ofNat n)
  | _ => none
def dCp {α : Type} (f g : Nat → α) (sp dp n : Nat) : Nat → α := fun j => if dp ≤ j ∧ j < dp + n then f (sp + (j - dp)) else g j
def aCp (e : dEnv) (m : dMem) (a : Nat) (sp : Int32) (b : Nat) (dp n : Int32) : Option dMem := match m.1 a, m.1 b with
  | some (.inl (k, na, .inl f)), some (.inl (k', nb, .inl g)) =>
    if k = k' ∧ (k = 0 ∨ k = 3) ∧ e.1 ≤ b ∧ 0 ≤ sp.toInt ∧ 0 ≤ dp.toInt ∧ 0 ≤ n.toInt ∧ sp.toInt + n.toInt ≤ na ∧ dp.toInt + n.toInt ≤ nb then
      some (dUp m b (.inl (k, nb, .inl (dCp f g sp.toInt.toNat dp.toInt.toNat n.toInt.toNat)))) else none
  | some (.inl (k, na, .inr (.inl f))), some (.inl (k', nb, .inr (.inl g))) =>
    if k = k' ∧ k = 1 ∧ e.1 ≤ b ∧ 0 ≤ sp.toInt ∧ 0 ≤ dp.toInt ∧ 0 ≤ n.toInt ∧ sp.toInt + n.toInt ≤ na ∧ dp.toInt + n.toInt ≤ nb then
      some (dUp m b (.inl (k, nb, .inr (.inl (dCp f g sp.toInt.toNat dp.toInt.toNat n.toInt.toNat))))) else none
  | _, _ => none
/-- a new array, all default -/
def dDf (kd : Nat) : dArr := if kd = 1 then .inr (.inl fun _ => 0) else if kd = 2 then .inr (.inr (.inl fun _ => 0)) else if kd = 5 then .inr (.inr (.inr fun _ => none)) else if kd = 6 then .inr (.inr (.inr fun _ => none)) else .inl fun _ => 0
def nA (m : dMem) (kd n : Nat) : dMem := (fun q => if q = m.2.1 then some (.inl (kd, n, dDf kd)) else m.1 q, m.2.1 + 1, m.2.2 + n)
def nO (m : dMem) (c n : Nat) (f : Nat → Value) : dMem := (fun q => if q = m.2.1 then some (.inr (c, f)) else m.1 q, m.2.1 + 1, m.2.2 + n)
/-- an array of bytes is copied whole -/
def aCl (e : dEnv) (m : dMem) (a : Nat) : Option dMem := match m.1 a with
  | some (.inl (3, n, .inl f)) => if e.1 ≤ a then some (fun q => if q = m.2.1 then some (.inl (3, n, .inl f)) else m.1 q, m.2.1 + 1, m.2.2 + n) else none
  | _ => none
def isB (e : dEnv) (m : dMem) (a : Nat) : Bool := match m.1 a with
  | some (.inl (3, _, .inl _)) => Nat.ble e.1 a
  | _ => false
/-- an exception that is made and thrown: one cell of at most six slots -/
def dTh (E : Nat) (m : dMem) : Option dRes := some (.inr E, (m.1, m.2.1 + 1, m.2.2 + 6))
def dPass (E : Nat) (m : dMem) : Option dRes := some (.inr E, m)
def kV (r : Option dRes) (h : Nat → dMem → Option dRes) (k : dMem → Option dRes) : Option dRes := match r with
  | some (.inl none, m) => k m
  | some (.inr E, m) => h E m
  | _ => none
def kI (r : Option dRes) (h : Nat → dMem → Option dRes) (k : Int32 → dMem → Option dRes) : Option dRes := match r with
  | some (.inl (some (.int x)), m) => k x m
  | some (.inr E, m) => h E m
  | _ => none
def kL (r : Option dRes) (h : Nat → dMem → Option dRes) (k : Int64 → dMem → Option dRes) : Option dRes := match r with
  | some (.inl (some (.long x)), m) => k x m
  | some (.inr E, m) => h E m
  | _ => none
def kF (r : Option dRes) (h : Nat → dMem → Option dRes) (k : UInt32 → dMem → Option dRes) : Option dRes := match r with
  | some (.inl (some (.float x)), m) => k x m
  | some (.inr E, m) => h E m
  | _ => none
def kD (r : Option dRes) (h : Nat → dMem → Option dRes) (k : UInt64 → dMem → Option dRes) : Option dRes := match r with
  | some (.inl (some (.double x)), m) => k x m
  | some (.inr E, m) => h E m
  | _ => none
def kR (r : Option dRes) (h : Nat → dMem → Option dRes) (k : Nat → dMem → Option dRes) : Option dRes := match r with
  | some (.inl (some (.ref x)), m) => k x m
  | some (.inr E, m) => h E m
  | _ => none
/-- answers of small types -/
def rI (x : Int32) (m : dMem) : Option dRes := some (.inl (some (.int x)), m)
def rZ (x : Int32) (m : dMem) : Option dRes := if x = 0 ∨ x = 1 then some (.inl (some (.int x)), m) else none
def rC (x : Int32) (m : dMem) : Option dRes := if 0 ≤ x.toInt ∧ x.toInt < 65536 then some (.inl (some (.int x)), m) else none
def rB (x : Int32) (m : dMem) : Option dRes := if x.toInt8.toInt32 = x then some (.inl (some (.int x)), m) else none
/-- locals by places -/
def dKill : Option Value → Option Value
  | some (.long _) => none
  | some (.double _) => none
  | x => x
def st1 : dLs → Nat → Value → dLs
  | [], _, _ => []
  | _ :: t, 0, v => some v :: t
  | o :: t, 1, v => dKill o :: st1 t 0 v
  | o :: t, i + 2, v => o :: st1 t (i + 1) v
def st2 : dLs → Nat → Value → dLs
  | [], _, _ => []
  | _ :: t, 0, v => some v :: (match t with | [] => [] | _ :: t' => none :: t')
  | o :: t, 1, v => dKill o :: st2 t 0 v
  | o :: t, i + 2, v => o :: st2 t (i + 1) v
def stN : dLs → Nat → dLs
  | [], _ => []
  | _ :: t, 0 => none :: t
  | o :: t, i + 1 => o :: stN t i
/-- the locals that are kept at a jump -/
def dMk : Nat → dLs → dLs
  | _, [] => []
  | k, o :: t => (bif Nat.beq (k % 2) 1 then o else none) :: dMk (k / 2) t
def hJ (hd : Nat → Option Nat) (jp : Nat → dLs → List Value → dMem → Option dRes) (ls : dLs) (E : Nat) (m : dMem) : Option dRes := bif Nat.ble E 3 then (match hd E with
  | some lbl => jp lbl (dMk 0 ls) [] m
  | none => some (.inr E, m)) else some (.inr E, m)
def mMin (x y : Int32) : Int32 := if y < x then y else x
def mMax (x y : Int32) : Int32 := if x < y then y else x
def mAbs (x : Int32) : Int32 := if 0 ≤ x then x else 0 - x
def dCat (v : Value) : Nat := match v with
  | .long _ => 2
  | .double _ => 2
  | _ => 1
def dSum : List Value → Nat
  | [] => 0
  | v :: t => dCat v + dSum t
def entL : List Value → dLs
  | [] => []
  | v :: t => match v with
    | .long x => some (.long x) :: none :: entL t
    | .double x => some (.double x) :: none :: entL t
    | w => some w :: entL t
/-- the first n, and what is behind them -/
def dSpl : Nat → List Value → List Value → Option (List Value × List Value)
  | 0, acc, st => some (acc, st)
  | _ + 1, _, [] => none
  | n + 1, acc, v :: st => dSpl n (v :: acc) st
section DX
variable (e : dEnv) (cl : Nat → List Value → dMem → Option dRes) (jp : Nat → dLs → List Value → dMem → Option dRes) (hd : Nat → Option Nat)
/-- behind a call -/
def dK (r : Option dRes) (r3 : Nat) (h : Nat → dMem → Option dRes) (k : List Value → dMem → Option dRes) : Option dRes := match r3 with
  | 0 => kV r h (k [])
  | 1 => kI r h (fun x => k [.int x])
  | 2 => kL r h (fun x => k [.long x])
  | 3 => kF r h (fun x => k [.float x])
  | 4 => kD r h (fun x => k [.double x])
  | 5 => kR r h (fun x => k [.ref x])
  | _ => none
def dCall (r1 r2 r3 r4 : Nat) (ls : dLs) (st : List Value) (m : dMem) (k : List Value → dMem → Option dRes) : Option dRes :=
  match dSpl r2 [] st with
  | some (as, rest) => bif Nat.ble (dSum rest) 8 then dK (cl r1 as m) r3 (bif Nat.beq r4 1 then hJ hd jp ls else dPass) (fun t => k (t ++ rest)) else none
  | none => none
def dx : List dOp → dLs → List Value → dMem → Option dRes
  | [], _, _, _ => none
  | (ins, _, _, r1, r2, r3, r4) :: ops, ls, st, m => match ins with
    | .iconst _ => dx ops ls (.int (Int32.ofNat r1) :: st) m
    | .bipush _ => dx ops ls (.int (Int32.ofNat r1) :: st) m
    | .sipush _ => dx ops ls (.int (Int32.ofNat r1) :: st) m
    | .lconst _ => dx ops ls (.long (Int64.ofNat r1) :: st) m
    | .fconst _ => dx ops ls (.float FP.fconst0 :: st) m
    | .dconst _ => dx ops ls (.double FP.dconst0 :: st) m
    | .ldc _ => match r1 with
      | 0 => dx ops ls (.int (Int32.ofNat r2) :: st) m
      | 1 => dx ops ls (.ref (e.2 r2) :: st) m
      | _ => none
    | .ldc_w _ => match r1 with
      | 0 => dx ops ls (.int (Int32.ofNat r2) :: st) m
      | 1 => dx ops ls (.ref (e.2 r2) :: st) m
      | _ => none
    | .ldc2_w _ => dx ops ls (.long (Int64.ofNat r2) :: st) m
    | .getstatic _ => match r1 with
      | 0 => dx ops ls (.int (Int32.ofNat r2) :: st) m
      | 1 => dx ops ls (.ref (e.2 r2) :: st) m
      | _ => none
    | .iload i => match ls[i]? with
      | some (some (.int x)) => dx ops ls (.int x :: st) m
      | _ => none
    | .iload_n i => match ls[i.val]? with
      | some (some (.int x)) => dx ops ls (.int x :: st) m
      | _ => none
    | .lload i => match ls[i]? with
      | some (some (.long x)) => dx ops ls (.long x :: st) m
      | _ => none
    | .lload_n i => match ls[i.val]? with
      | some (some (.long x)) => dx ops ls (.long x :: st) m
      | _ => none
    | .fload i => match ls[i]? with
      | some (some (.float x)) => dx ops ls (.float x :: st) m
      | _ => none
    | .fload_n i => match ls[i.val]? with
      | some (some (.float x)) => dx ops ls (.float x :: st) m
      | _ => none
    | .dload i => match ls[i]? with
      | some (some (.double x)) => dx ops ls (.double x :: st) m
      | _ => none
    | .aload i => match ls[i]? with
      | some (some (.ref x)) => dx ops ls (.ref x :: st) m
      | some (some .null) => dx ops ls (.null :: st) m
      | _ => none
    | .aload_n i => match ls[i.val]? with
      | some (some (.ref x)) => dx ops ls (.ref x :: st) m
      | _ => none
    | .istore i => match st with
      | .int x :: st => dx ops (st1 ls i (.int x)) st m
      | _ => none
    | .istore_n i => match st with
      | .int x :: st => dx ops (st1 ls i.val (.int x)) st m
      | _ => none
    | .lstore_n i => match st with
      | .long x :: st => dx ops (st2 ls i.val (.long x)) st m
      | _ => none
    | .fstore i => match st with
      | .float x :: st => dx ops (st1 ls i (.float x)) st m
      | _ => none
    | .fstore_n i => match st with
      | .float x :: st => dx ops (st1 ls i.val (.float x)) st m
      | _ => none
    | .dstore i => match st with
      | .double x :: st => dx ops (st2 ls i (.double x)) st m
      | _ => none
    | .astore i => match st with
      | .ref x :: st => dx ops (st1 ls i (.ref x)) st m
      | .null :: st => dx ops (st1 ls i .null) st m
      | _ => none
    | .astore_n i => match st with
      | .ref x :: st => dx ops (st1 ls i.val (.ref x)) st m
      | _ => none
    | .iinc i _ => match ls[i]? with
      | some (some (.int x)) => dx ops (st1 ls i (.int (x + Int32.ofNat r1))) st m
      | _ => none
    | .iadd => match st with
      | .int y :: .int x :: st => dx ops ls (.int (x + y) :: st) m
      | _ => none
    | .isub => match st with
      | .int y :: .int x :: st => dx ops ls (.int (x - y) :: st) m
      | _ => none
    | .imul => match st with
      | .int y :: .int x :: st => dx ops ls (.int (x * y) :: st) m
      | _ => none
    | .iand => match st with
      | .int y :: .int x :: st => dx ops ls (.int (x &&& y) :: st) m
      | _ => none
    | .ior => match st with
      | .int y :: .int x :: st => dx ops ls (.int (x ||| y) :: st) m
      | _ => none
    | .aconst_null => dx ops ls (.null :: st) m
    | .ifnonnull _ => match st with
      | .ref _ :: st => jp r1 (dMk r2 ls) st m
      | .null :: st => dx ops ls st m
      | _ => none
    | .checkcast _ => match st with
      | .ref a :: st => bif isB e m a then dx ops ls (.ref a :: st) m else none
      | _ => none
    | .idiv => match st with
      | .int y :: .int x :: st => if y = 0 then none else dx ops ls (.int (x / y) :: st) m
      | _ => none
    | .irem => match st with
      | .int y :: .int x :: st => if y = 0 then none else dx ops ls (.int (x - x / y * y) :: st) m
      | _ => none
    | .ineg => match st with
      | .int x :: st => dx ops ls (.int (-x) :: st) m
      | _ => none
    | .ishl => match st with
      | .int y :: .int x :: st => dx ops ls (.int (x <<< (y &&& 31)) :: st) m
      | _ => none
    | .ishr => match st with
      | .int y :: .int x :: st => dx ops ls (.int (x >>> (y &&& 31)) :: st) m
      | _ => none
    | .lor => match st with
      | .long y :: .long x :: st => dx ops ls (.long (x ||| y) :: st) m
      | _ => none
    | .lshl => match st with
      | .int y :: .long x :: st => dx ops ls (.long (x <<< (y.toInt64 &&& 63)) :: st) m
      | _ => none
    | .lushr => match st with
      | .int y :: .long x :: st => dx ops ls (.long (x.toUInt64 >>> (y.toInt64.toUInt64 &&& Int64.toUInt64 63)).toInt64 :: st) m
      | _ => none
    | .i2l => match st with
      | .int x :: st => dx ops ls (.long x.toInt64 :: st) m
      | _ => none
    | .l2i => match st with
      | .long x :: st => dx ops ls (.int x.toInt32 :: st) m
      | _ => none
    | .i2b => match st with
      | .int x :: st => dx ops ls (.int x.toInt8.toInt32 :: st) m
      | _ => none
    | .i2c => match st with
      | .int x :: st => dx ops ls (.int (x.toUInt32 % 65536).toInt32 :: st) m
      | _ => none
    | .i2f => match st with
      | .int x :: st => dx ops ls (.float (FP.i2f x) :: st) m
      | _ => none
    | .i2d => match st with
      | .int x :: st => dx ops ls (.double (FP.i2d x) :: st) m
      | _ => none
    | .f2d => match st with
      | .float x :: st => if FP.f2d x &&& 0x7fffffffffffffff ≤ 0x7ff0000000000000 then dx ops ls (.double (FP.f2d x) :: st) m else none
      | _ => none
    | .fdiv => match st with
      | .float y :: .float x :: st => if FP.fdiv x y &&& 0x7fffffff ≤ 0x7f800000 then dx ops ls (.float (FP.fdiv x y) :: st) m else none
      | _ => none
    | .ddiv => match st with
      | .double y :: .double x :: st => if FP.ddiv x y &&& 0x7fffffffffffffff ≤ 0x7ff0000000000000 then dx ops ls (.double (FP.ddiv x y) :: st) m else none
      | _ => none
    | .fcmp op => match st with
      | .float y :: .float x :: st => dx ops ls (.int (Op.cmpValue (FP.fcmp x y) op) :: st) m
      | _ => none
    | .dcmp op => match st with
      | .double y :: .double x :: st => dx ops ls (.int (Op.cmpValue (FP.dcmp x y) op) :: st) m
      | _ => none
    | .lcmp => match st with
      | .long y :: .long x :: st => dx ops ls (.int (lg_cmp x y) :: st) m
      | _ => none
    | .dup => match st with
      | .ref x :: st => dx ops ls (.ref x :: .ref x :: st) m
      | .int x :: st => dx ops ls (.int x :: .int x :: st) m
      | _ => none
    | .dup_x1 => match st with
      | .int x :: .ref y :: st => dx ops ls (.int x :: .ref y :: .int x :: st) m
      | _ => none
    | .dup2 => match st with
      | .int x :: .ref y :: st => dx ops ls (.int x :: .ref y :: .int x :: .ref y :: st) m
      | _ => none
    | .pop => match st with
      | .ref _ :: st => dx ops ls st m
      | .int _ :: st => dx ops ls st m
      | _ => none
    | .getfield _ => match st with
      | .ref a :: st => match r3 with
        | 0 => (gI m a r1 r2).bind fun x => dx ops ls (.int x :: st) m
        | 1 => (gR m a r1 r2).bind fun x => dx ops ls (.ref x :: st) m
        | _ => none
      | _ => none
    | .putfield _ => match st with
      | .int x :: .ref a :: st => match r3 with
        | 0 => (pI e m a r1 r2 x).bind fun m => dx ops ls st m
        | 2 => (pZ e m a r1 r2 x).bind fun m => dx ops ls st m
        | 3 => (pB e m a r1 r2 x).bind fun m => dx ops ls st m
        | _ => none
      | .ref x :: .ref a :: st => match r3 with
        | 1 => (pR e m a r1 r2 x).bind fun m => dx ops ls st m
        | _ => none
      | _ => none
    | .iaload => match st with
      | .int i :: .ref a :: st => (aI m 0 a i).bind fun x => dx ops ls (.int x :: st) m
      | _ => none
    | .baload => match st with
      | .int i :: .ref a :: st => match r1 with
        | 3 => (aI m 3 a i).bind fun x => dx ops ls (.int x :: st) m
        | 4 => (aI m 4 a i).bind fun x => dx ops ls (.int x :: st) m
        | _ => none
      | _ => none
    | .laload => match st with
      | .int i :: .ref a :: st => (aL m 1 a i).bind fun x => dx ops ls (.long x :: st) m
      | _ => none
    | .daload => match st with
      | .int i :: .ref a :: st => (aD m 2 a i).bind fun x => dx ops ls (.double x :: st) m
      | _ => none
    | .aaload => match st with
      | .int i :: .ref a :: st => (aR m r1 a i).bind fun x => dx ops ls (.ref x :: st) m
      | _ => none
    | .iastore => match st with
      | .int x :: .int i :: .ref a :: st => (sI e m 0 a i x).bind fun m => dx ops ls st m
      | _ => none
    | .bastore => match st with
      | .int x :: .int i :: .ref a :: st => match r1 with
        | 3 => (sI e m 3 a i x).bind fun m => dx ops ls st m
        | 4 => (sI e m 4 a i x).bind fun m => dx ops ls st m
        | _ => none
      | _ => none
    | .lastore => match st with
      | .long x :: .int i :: .ref a :: st => (sL e m 1 a i x).bind fun m => dx ops ls st m
      | _ => none
    | .dastore => match st with
      | .double x :: .int i :: .ref a :: st => (sD e m 2 a i x).bind fun m => dx ops ls st m
      | _ => none
    | .aastore => match st with
      | .ref x :: .int i :: .ref a :: st => (sR e m r2 a i x r1).bind fun m => dx ops ls st m
      | _ => none
    | .arraylength => match st with
      | .ref a :: st => (aN m a).bind fun x => dx ops ls (.int x :: st) m
      | _ => none
    | .newarray _ => match st with
      | .int n :: st => if 0 ≤ n.toInt ∧ n.toInt ≤ 100000 then dx ops ls (.ref m.2.1 :: st) (nA m r1 n.toInt.toNat) else none
      | _ => none
    | .anewarray _ => match st with
      | .int n :: st => if 0 ≤ n.toInt ∧ n.toInt ≤ 100000 then dx ops ls (.ref m.2.1 :: st) (nA m r1 n.toInt.toNat) else none
      | _ => none
    | .ifCond c _ => match st with
      | .int x :: st => match c with
        | .eq => if x = 0 then jp r1 (dMk r2 ls) st m else dx ops ls st m
        | .ne => if x = 0 then dx ops ls st m else jp r1 (dMk r2 ls) st m
        | .lt => if x < 0 then jp r1 (dMk r2 ls) st m else dx ops ls st m
        | .ge => if x < 0 then dx ops ls st m else jp r1 (dMk r2 ls) st m
        | .gt => if 0 < x then jp r1 (dMk r2 ls) st m else dx ops ls st m
        | .le => if 0 < x then dx ops ls st m else jp r1 (dMk r2 ls) st m
      | _ => none
    | .if_icmp c _ => match st with
      | .int y :: .int x :: st => match c with
        | .eq => if x = y then jp r1 (dMk r2 ls) st m else dx ops ls st m
        | .ne => if x = y then dx ops ls st m else jp r1 (dMk r2 ls) st m
        | .lt => if x < y then jp r1 (dMk r2 ls) st m else dx ops ls st m
        | .ge => if x < y then dx ops ls st m else jp r1 (dMk r2 ls) st m
        | .gt => if y < x then jp r1 (dMk r2 ls) st m else dx ops ls st m
        | .le => if y < x then dx ops ls st m else jp r1 (dMk r2 ls) st m
      | _ => none
    | .goto _ => jp r1 (dMk r2 ls) st m
    | .nop => jp r1 (dMk r2 ls) st m
    | .tableswitch _ lo hi _ => match st with
      | .int x :: st => if x.toInt < lo ∨ hi < x.toInt then jp r2 (dMk r3 ls) st m else jp (r1 + (x.toInt - lo).toNat) (dMk r3 ls) st m
      | _ => none
    | .ireturn => match st with
      | [.int x] => match r1 with
        | 0 => rI x m
        | 1 => rZ x m
        | 2 => rC x m
        | 3 => rB x m
        | _ => none
      | _ => none
    | .lreturn => match st with
      | [.long x] => some (.inl (some (.long x)), m)
      | _ => none
    | .freturn => match st with
      | [.float x] => some (.inl (some (.float x)), m)
      | _ => none
    | .dreturn => match st with
      | [.double x] => some (.inl (some (.double x)), m)
      | _ => none
    | .areturn => match st with
      | [.ref x] => some (.inl (some (.ref x)), m)
      | _ => none
    | .return_ => match st with
      | [] => some (.inl none, m)
      | _ => none
    | .new _ => match r2 with
      | 0 => match st with
        | [] => dTh r1 m
        | _ => none
      | 1 => dx ops ls (.ref m.2.1 :: st) (nO m r1 (dNf r1) (dDef r1))
      | _ => none
    | .invokevirtual _ => match r4 with
      | 5 => match st with
        | .ref a :: st => bif Nat.ble (dSum st) 8 then (aCl e m a).bind fun m' => dx ops ls (.ref m.2.1 :: st) m' else none
        | _ => none
      | _ => dCall cl jp hd r1 r2 r3 r4 ls st m (fun st m => dx ops ls st m)
    | .invokeinterface _ _ => match st[r2 - 1]? with
      | some (.ref a) => bif isC m a 1 then dCall cl jp hd r1 r2 r3 0 ls st m (fun st m => dx ops ls st m) else bif isC m a 0 then dCall cl jp hd r4 r2 r3 0 ls st m (fun st m => dx ops ls st m) else none
      | _ => none
    | .invokestatic _ => match r4 with
      | 2 => match st with
        | .int n :: .int dp :: .ref b :: .int sp :: .ref a :: st => bif Nat.ble (dSum st) 8 then (aCp e m a sp b dp n).bind fun m => dx ops ls st m else none
        | _ => none
      | 4 => match r1 with
        | 0 => match st with
          | .int y :: .int x :: st => bif Nat.ble (dSum st) 8 then dx ops ls (.int (mMin x y) :: st) m else none
          | _ => none
        | 1 => match st with
          | .int y :: .int x :: st => bif Nat.ble (dSum st) 8 then dx ops ls (.int (mMax x y) :: st) m else none
          | _ => none
        | 2 => match st with
          | .int x :: st => bif Nat.ble (dSum st) 8 then dx ops ls (.int (mAbs x) :: st) m else none
          | _ => none
        | _ => none
      | 3 => match st with
        | .int y :: .int x :: st => bif Nat.ble (dSum st) 8 then if 0 ≤ x.toInt ∧ x.toInt < y.toInt then dx ops ls st m else none else none
        | _ => none
      | _ => dCall cl jp hd r1 r2 r3 r4 ls st m (fun st m => dx ops ls st m)
    | .invokespecial _ => match r4 with
      | 2 => match st with
        | .ref _ :: st => bif Nat.ble (dSum st) 8 then dx ops ls st m else none
        | _ => none
      | _ => dCall cl jp hd r1 r2 r3 r4 ls st m (fun st m => dx ops ls st m)
    | _ => none
end DX
noncomputable section
def runL (e : dEnv) (cl : Nat → List Value → dMem → Option dRes) (j : Nat) : Nat → Nat → dLs → List Value → dMem → Option dRes
  | 0, _, _, _, _ => none
  | n + 1, lbl, ls, st, m => bif Nat.ble (dNL j) lbl then none else dx e cl (runL e cl j n) (dhd j) (dcode j lbl) ls st m
def dRecv (j : Nat) (as : List Value) (m : dMem) : Bool := match dRc j with
  | 0 => true
  | c + 1 => match as with
    | .ref a :: _ => isC m a c
    | _ => false
def dFin (t : Bool) (r : Option dRes) : Option dRes := bif t then (match r with | some (.inl v, m) => some (.inl v, m) | _ => none) else r
/-- labels that one call may come to -/
def dFuel : Nat := 4000000
def dM (e : dEnv) : Nat → Nat → List Value → dMem → Option dRes
  | 0, _, _, _ => none
  | d + 1, j, as, m => bif dRecv j as m then dFin (dTr j) (runL e (dM e d) j dFuel 0 (entL as ++ List.replicate (dPad j) none) [] m) else none
end

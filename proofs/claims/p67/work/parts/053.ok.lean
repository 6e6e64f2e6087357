/-! ===== what is checked of each decoded instruction ===== -/
noncomputable section
def dLen (i : Instr) : Nat := match i with
  | .bipush _ => 2 | .sipush _ => 3 | .ldc _ => 2 | .ldc_w _ => 3 | .ldc2_w _ => 3 | .getstatic _ => 3 | .getfield _ => 3 | .putfield _ => 3
  | .iload _ => 2 | .lload _ => 2 | .fload _ => 2 | .dload _ => 2 | .aload _ => 2 | .istore _ => 2 | .fstore _ => 2 | .dstore _ => 2 | .astore _ => 2
  | .iinc _ _ => 3 | .newarray _ => 2 | .anewarray _ => 3 | .ifCond _ _ => 3 | .if_icmp _ _ => 3 | .goto _ => 3 | .new _ => 3
  | .invokevirtual _ => 3 | .invokestatic _ => 3 | .invokespecial _ => 3 | .invokeinterface _ _ => 5 | .checkcast _ => 3 | .ifnonnull _ => 3
  | _ => 1
def dDec (j pc : Nat) (i : Instr) (n : Nat) : Bool := match decode (dBy j) pc with
  | .ok (a, k) => decide (a = i) && Nat.beq k n
  | _ => false
theorem dDec_eq {j pc : Nat} {i : Instr} {n : Nat} (h : dDec j pc i n = true) : decode (dBy j) pc = .ok (i, n) := by
  unfold dDec at h
  split at h
  · rename_i a k hd
    simp only [Bool.and_eq_true, decide_eq_true_eq] at h
    rw [hd, h.1, Nat.eq_of_beq_eq_true h.2]
  · cases h
/-- strings that the code loads -/
def dStr : List (Nat × Nat × String) := [(4, 70, "archive"), (4, 87, "class"), (4, 92, "box"), (4, 97, "reader"), (4, 102, "seal"), (4, 107, "request"), (4, 112, "back"), (4, 117, "move"), (4, 122, "list"), (4, 127, "strike"), (4, 132, "approve"), (4, 137, "pass"), (4, 142, "repeat"), (4, 164, "forever"), (4, 180, "at"), (11, 56, "archive "), (11, 72, ";class "), (11, 81, " forever"), (11, 83, ""), (11, 85, ";reader "), (11, 93, ";box "), (11, 98, " at "), (11, 111, ";pass "), (11, 121, ";seal "), (11, 129, ";request "), (11, 135, ";list"), (11, 140, ";approve"), (11, 145, ";repeat "), (11, 147, "(list;pass 1)"), (11, 162, "k"), (11, 168, "class"), (11, 170, "r"), (11, 172, "reader"), (8, 355, " "), (8, 357, ""), (8, 370, "-")]
/-- messages of exceptions -/
def dMsg : List (Nat × Nat × String) := [(0, 63, "length is not within the buffer"), (0, 74, "the text has an error"), (0, 224, "no such position of the list"), (0, 291, "no byte at this index"), (0, 303, "no room for another box"), (0, 308, "the box is destroyed, or the place is not free"), (0, 310, "the box is destroyed"), (0, 312, "there is an obstacle to the request"), (0, 320, "the box is not lent"), (0, 331, "the box is not on the list"), (0, 342, "there is no change to undo"), (0, 357, "no state is saved in the slot"), (0, 359, "no text has been loaded"), (0, 361, "no such record class"), (0, 363, "no such box"), (0, 365, "no such reader"), (0, 367, "no such shelf or place"), (0, 369, "no such slot"), (0, 371, "a number is out of range"), (4, 62, "the token is not valid")]
/-- classes' exceptions: owner, class link, constructor link, number -/
def dXl : List (Nat × Nat × Nat × Nat) := [(0, 61, 65, 2), (0, 72, 76, 3), (0, 340, 344, 1), (4, 53, 64, 3)]
/-- new objects: owner, class link, class number -/
def dNw : List (Nat × Nat × Nat) := [(0, 7, 5), (0, 16, 2), (0, 26, 3), (0, 33, 8), (0, 40, 1), (1, 9, 7), (1, 18, 6), (2, 9, 2), (4, 9, 4), (4, 18, 2), (7, 9, 2), (8, 18, 9), (8, 120, 12), (8, 264, 11), (8, 313, 1), (11, 23, 10), (11, 54, 1), (15, 18, 0)]
def dEx (E : Nat) : String := match E with
  | 1 => "java/lang/IllegalStateException"
  | 2 => "java/lang/IndexOutOfBoundsException"
  | _ => "java/lang/IllegalArgumentException"
/-- whole constants: owner, place, number -/
def dKi : List (Nat × Nat × Nat) := [(10, 17, 2147483647), (12, 38, 2147483631), (12, 39, 2147483647), (18, 200, 2147483639)]
def dKl : List (Nat × Nat × Nat) := [(8, 100, 18446744073709451617)]
/-- statics: owner, place, what (0: COMPACT_STRINGS) -/
def dSt : List (Nat × Nat × Nat) := [(12, 18, 0), (13, 83, 1000), (13, 87, 1001), (14, 38, 0)]
def dAl : List (Nat × Nat) := [(2, 9), (7, 9)]
def dAb : List (Nat × Nat) := [(11, 23)]
def dKb : List (Nat × Nat) := [(17, 311)]
def dKc : List (Nat × Nat) := [(17, 310)]
def dOi : List (Nat × Nat) := [(0, 1), (1, 3), (2, 3), (3, 3), (4, 3), (5, 3), (6, 3), (7, 3), (9, 1), (10, 1), (11, 1), (12, 3), (14, 1)]
def dCi : List (Nat × Nat) := [(1, 83), (5, 23), (6, 30), (14, 212), (17, 150)]
def dCx : List (Nat × Nat) := [(12, 144), (16, 9)]
def dCm : List (Nat × Nat × Nat) := [(1, 179, 2), (2, 29, 0), (8, 268, 1), (12, 138, 0), (17, 304, 0), (18, 194, 1)]
def b3 (l : List (Nat × Nat × Nat)) (q : Nat × Nat × Nat) : Bool := l.any fun x => Nat.beq x.1 q.1 && Nat.beq x.2.1 q.2.1 && Nat.beq x.2.2 q.2.2
def b2 (l : List (Nat × Nat)) (q : Nat × Nat) : Bool := l.any fun x => Nat.beq x.1 q.1 && Nat.beq x.2 q.2
def b4 (l : List (Nat × Nat × Nat × Nat)) (q : Nat × Nat × Nat × Nat) : Bool := l.any fun x => Nat.beq x.1 q.1 && Nat.beq x.2.1 q.2.1 && Nat.beq x.2.2.1 q.2.2.1 && Nat.beq x.2.2.2 q.2.2.2
def bS (l : List (Nat × Nat × String)) (a b : Nat) : Bool := l.any fun x => Nat.beq x.1 a && Nat.beq x.2.1 b
def bK (l : List (Nat × Nat × String)) (k a b : Nat) : Bool := match l[k]? with
  | some x => Nat.beq x.1 a && Nat.beq x.2.1 b
  | none => false
theorem b2_eq {l : List (Nat × Nat)} {q : Nat × Nat} (h : b2 l q = true) : q ∈ l := by
  obtain ⟨x, hx, h⟩ := List.any_eq_true.mp h
  simp only [Bool.and_eq_true] at h
  have : x = q := Prod.ext (Nat.eq_of_beq_eq_true h.1) (Nat.eq_of_beq_eq_true h.2)
  exact this ▸ hx
theorem b3_eq {l : List (Nat × Nat × Nat)} {q : Nat × Nat × Nat} (h : b3 l q = true) : q ∈ l := by
  obtain ⟨x, hx, h⟩ := List.any_eq_true.mp h
  simp only [Bool.and_eq_true] at h
  have : x = q := Prod.ext (Nat.eq_of_beq_eq_true h.1.1) (Prod.ext (Nat.eq_of_beq_eq_true h.1.2) (Nat.eq_of_beq_eq_true h.2))
  exact this ▸ hx
theorem b4_eq {l : List (Nat × Nat × Nat × Nat)} {q : Nat × Nat × Nat × Nat} (h : b4 l q = true) : q ∈ l := by
  obtain ⟨x, hx, h⟩ := List.any_eq_true.mp h
  simp only [Bool.and_eq_true] at h
  have : x = q := Prod.ext (Nat.eq_of_beq_eq_true h.1.1.1) (Prod.ext (Nat.eq_of_beq_eq_true h.1.1.2) (Prod.ext (Nat.eq_of_beq_eq_true h.1.2) (Nat.eq_of_beq_eq_true h.2)))
  exact this ▸ hx
def okTg (j pc : Nat) (off : Int) (r1 : Nat) : Bool := decide ((pc : Int) + off = (dpc j r1 : Int))
def okPut (j r1 r2 r3 : Nat) : Bool := (match dTy r1 r2, r3 with
  | .int, 0 => true
  | .boolean, 2 => true
  | .byte, 3 => true
  | .object _, 1 => true
  | .array _, 1 => true
  | _, _ => false) && (match dCl[r1]? with
  | some r => !(r.2.1 r2).2.2.2 || (decide ((dY j).name = "<init>") && decide ((r.2.1 r2).1 = dOwn (dOn j)))
  | none => false)
def okRet (j r1 : Nat) : Bool := match dRt j, r1 with
  | some .int, 0 => true
  | some .boolean, 1 => true
  | some .char, 2 => true
  | some .byte, 3 => true
  | _, _ => false
/-- handlers' classes: owner, link, number -/
def dHl : List (Nat × Nat × Nat) := [(4, 53, 3), (8, 102, 1), (8, 104, 2), (8, 106, 3)]
def dLaw : Nat := 365
def okAst (j h lbl : Nat) : Bool := match decode (dBy j) h with
  | .ok (.astore_n k, 1) => Nat.blt k.val (dMl j) && Nat.beq (dpc j lbl) (h + 1)
  | .ok (.astore k, 2) => Nat.blt k (dMl j) && Nat.beq (dpc j lbl) (h + 2)
  | _ => false
def okCat (j pc E lbl : Nat) : List (Nat × Nat × Nat × Nat) → Bool
  | [] => false
  | x :: suf => bif b3 dHl (dOn j, x.2.2.2, E) then Nat.ble x.1 pc && Nat.blt pc x.2.1 && okAst j x.2.2.1 lbl && !(Nat.beq x.2.2.2 0)
    else ((b3 dHl (dOn j, x.2.2.2, 1) && !(Nat.beq E 1)) || (b3 dHl (dOn j, x.2.2.2, 2) && !(Nat.beq E 2)) || (b3 dHl (dOn j, x.2.2.2, 3) && !(Nat.beq E 3))) && !(Nat.beq x.2.2.2 0) && okCat j pc E lbl suf
def okHd (j pc : Nat) : Bool := [0, 1, 2, 3].all fun E => match dhd j E with
  | none => true
  | some lbl => Nat.ble 1 E && okCat j pc E lbl (dHh j)
/-- a call: kind by the instruction; the callee's number, its arguments, its answer -/
def okCall (j pc idx ins r1 r2 r3 r4 : Nat) : Bool :=
  Nat.blt r1 dNM && !(Nat.beq r1 dLaw) && Nat.ble (dMl r1) 81 && Nat.beq r2 (dNp r1 + (bif Nat.beq (dRc r1) 0 then 0 else 1)) && Nat.beq r3 (match dRt r1 with | none => 0 | some .long => 2 | some .float => 3 | some .double => 4 | some (.object _) => 5 | some (.array _) => 5 | some _ => 1)
  && (match ins with
    | 0 => b4 dCL (dOn j, idx, 0, r1) || b4 dCL (dOn j, idx, 5, r1) || b4 dCL (dOn j, idx, 9, r1)
    | 1 => b4 dCL (dOn j, idx, 1, r1) || b4 dCL (dOn j, idx, 4, r1)
    | _ => b4 dCL (dOn j, idx, 2, r1) || b4 dCL (dOn j, idx, 3, r1) || b4 dCL (dOn j, idx, 6, r1))
  && (match r4 with | 0 => true | 1 => dTr j && okHd j pc | _ => false)
  && (!(dTr r1) || (match ins with | 0 => b4 dCL (dOn j, idx, 0, r1) | 1 => b4 dCL (dOn j, idx, 1, r1) | _ => false))
/-- a call through an interface -/
def okCallF (j idx kd r1 r2 r3 : Nat) : Bool :=
  Nat.blt r1 dNM && !(Nat.beq r1 dLaw) && Nat.ble (dMl r1) 81 && Nat.beq r2 (dNp r1 + 1) && Nat.beq r3 1 && !(dTr r1) && b4 dCL (dOn j, idx, kd, r1)
def okNf (r1 r2 : Nat) : Bool := match dCl[r1]? with
  | some r => !(r.2.1 r2).2.2.2
  | none => false
def okX (j pc : Nat) (ins : Instr) (r1 r2 r3 r4 : Nat) : Bool := match ins with
  | .iconst n => decide (Int32.ofInt n = Int32.ofNat r1)
  | .bipush n => decide ((Int8.ofInt n).toInt32 = Int32.ofNat r1)
  | .sipush n => decide ((Int16.ofInt n).toInt32 = Int32.ofNat r1)
  | .lconst n => Nat.beq n.val r1
  | .fconst n => Nat.beq n.val 0
  | .dconst n => Nat.beq n.val 0
  | .ldc i => (match r1 with | 0 => b3 dKi (dOn j, i, r2) | 1 => bK dStr r2 (dOn j) i | _ => true)
  | .ldc_w i => (match r1 with | 0 => false | 1 => bK dStr r2 (dOn j) i | _ => true)
  | .ldc2_w i => b3 dKl (dOn j, i, r2)
  | .getstatic i => (match r1 with | 0 => Nat.beq r2 1 && b3 dSt (dOn j, i, 0) | 1 => Nat.ble 1000 r2 && b3 dSt (dOn j, i, r2) | _ => true)
  | .istore i => Nat.blt i (dMl j)
  | .istore_n i => Nat.blt i.val (dMl j)
  | .lstore_n i => Nat.blt (i.val + 1) (dMl j)
  | .fstore i => Nat.blt i (dMl j)
  | .dstore i => Nat.blt (i + 1) (dMl j)
  | .astore i => Nat.blt i (dMl j)
  | .astore_n i => Nat.blt i.val (dMl j)
  | .iinc i n => Nat.blt i (dMl j) && decide (Int32.ofInt n = Int32.ofNat r1)
  | .fstore_n i => Nat.blt i.val (dMl j)
  | .getfield i => b4 dFL (dOn j, i, r1, r2) || b4 dFN (dOn j, i, r1, r2)
  | .putfield i => (b4 dFL (dOn j, i, r1, r2) || (b4 dFN (dOn j, i, r1, r2) && okNf r1 r2)) && okPut j r1 r2 r3
  | .aaload => Nat.beq r1 5 || Nat.beq r1 6
  | .aastore => (Nat.beq r1 2 && Nat.beq r2 5) || (Nat.beq r1 10 && Nat.beq r2 6)
  | .newarray t => (Nat.blt r1 5 && !(Nat.beq r1 2)) && decide (newarray.typeOf t = dty r1)
  | .anewarray i => (Nat.beq r1 5 && b2 dAl (dOn j, i)) || (Nat.beq r1 6 && b2 dAb (dOn j, i))
  | .ifnonnull off => okTg j pc off r1
  | .checkcast i => b2 dKb (dOn j, i)
  | .ifCond _ off => okTg j pc off r1
  | .if_icmp _ off => okTg j pc off r1
  | .goto off => okTg j pc off r1
  | .tableswitch d lo hi offs => decide ((offs.size : Int) = hi - lo + 1) && okTg j pc d r2 && (offs.toList.zipIdx).all (fun q => okTg j pc q.1 (r1 + q.2))
  | .ireturn => okRet j r1
  | .lreturn => decide (dRt j = some .long)
  | .freturn => decide (dRt j = some .float)
  | .dreturn => decide (dRt j = some .double)
  | .areturn => (match dRt j with | some (.object _) => true | some (.array _) => true | _ => false)
  | .return_ => decide (dRt j = none)
  | .new i => (match r2 with
    | 0 => (bif Nat.ble r3 255 then dDec j (pc + 3) .dup 1 && dDec j (pc + 4) (.ldc r3) 2 && dDec j (pc + 6) (.invokespecial r4) 3 && dDec j (pc + 9) .athrow 1
        else dDec j (pc + 3) .dup 1 && dDec j (pc + 4) (.ldc_w r3) 3 && dDec j (pc + 7) (.invokespecial r4) 3 && dDec j (pc + 10) .athrow 1)
      && b4 dXl (dOn j, i, r4, r1) && bS dMsg (dOn j) r3 && !(dTr j)
    | 1 => b3 dNw (dOn j, i, r1)
    | _ => true)
  | .invokevirtual i => (match r4 with | 5 => b2 dKc (dOn j, i) | _ => okCall j pc i 0 r1 r2 r3 r4)
  | .invokeinterface i _ => okCallF j i 7 r1 r2 r3 && okCallF j i 8 r4 r2 r3
  | .invokestatic i => (match r4 with | 2 => b2 dCi (dOn j, i) | 3 => b2 dCx (dOn j, i) | 4 => b3 dCm (dOn j, i, r1) | _ => okCall j pc i 1 r1 r2 r3 r4)
  | .invokespecial i => (match r4 with | 2 => b2 dOi (dOn j, i) | _ => okCall j pc i 2 r1 r2 r3 r4)
  | _ => true
def okOp (j pc : Nat) (o : dOp) : Bool := match o.1 with
  | .nop => Nat.beq (dpc j o.2.2.2.1) pc
  | .athrow => true
  | ins => dDec j pc ins o.2.2.1 && (match ins with | .tableswitch .. => true | _ => Nat.beq o.2.2.1 (dLen ins)) && okX j pc ins o.2.2.2.1 o.2.2.2.2.1 o.2.2.2.2.2.1 o.2.2.2.2.2.2
def okOps (j : Nat) : Nat → List dOp → Bool
  | _, [] => true
  | pc, o :: ops => okOp j pc o && okOps j (pc + o.2.2.1) ops
def okM (j : Nat) : Bool := (List.range (dNL j)).all fun l => okOps j (dpc j l) (dcode j l)
end

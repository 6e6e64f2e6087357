/-! ===== the first memory ===== -/
noncomputable section
theorem dInst : ∀ (ci : Nat) (r : vw_C), dCl[ci]? = some r → ∃ n, Cond.instantiable r.1 n ∈ dTb := by
  intro ci r h
  match ci, h with
  | 0, h => cases h; exact ⟨4, dTb_of (tI 1346 (by decide +kernel)) rfl⟩
  | 1, h => cases h; exact ⟨4, dTb_of (tI 278 (by decide +kernel)) rfl⟩
  | 2, h => cases h; exact ⟨17, dTb_of (tI 78 (by decide +kernel)) rfl⟩
  | 3, h => cases h; exact ⟨3, dTb_of (tI 241 (by decide +kernel)) rfl⟩
  | 4, h => cases h; exact ⟨7, dTb_of (tI 44 (by decide +kernel)) rfl⟩
  | 5, h => cases h; exact ⟨5, dTb_of (tI 38 (by decide +kernel)) rfl⟩
  | 6, h => cases h; exact ⟨3, dTb_of (tI 119 (by decide +kernel)) rfl⟩
  | 7, h => cases h; exact ⟨5, dTb_of (tI 84 (by decide +kernel)) rfl⟩
  | 8, h => cases h; exact ⟨2, dTb_of (tI 261 (by decide +kernel)) rfl⟩
  | 9, h => cases h; exact ⟨7, dTb_of (tI 30 (by decide +kernel)) rfl⟩
  | 10, h => cases h; exact ⟨22, dTb_of (tI 1624 (by decide +kernel)) rfl⟩
  | n + 11, h => simp [dCl] at h
theorem start_D {args : Array Value} {s : State} (hts : ∀ w ∈ dTb, w.before args s = true) : ∃ D : va_G, va_K D dCl [] s := by
  have h0 : ∀ ci : Nat, ∃ q : ClassId × (Nat → Nat), ∀ r : vw_C, dCl[ci]? = some r → u_Kn s r.1 r.2.1 r.2.2 q.1 q.2 := by
    intro ci
    cases h : dCl[ci]? with
    | none => exact ⟨(0, fun _ => 0), fun r hr => by cases hr⟩
    | some r =>
      obtain ⟨n, hi⟩ := dInst ci r h
      obtain ⟨cC, iS, hK⟩ := u_known (T := r.2.1) (N := r.2.2) hts (dCl_ok ci r h).1 (hts _ hi)
      exact ⟨(cC, iS), fun r' hr' => by cases hr'; exact hK⟩
  obtain ⟨q, hq⟩ := Classical.axiomOfChoice h0
  exact ⟨(fun c => (q c).1, fun c => (q c).2), fun c r hr => hq c r hr, fun k q hk => by cases hk⟩
def dByt : List (List Nat) := [[97, 114, 99, 104, 105, 118, 101], [99, 108, 97, 115, 115], [98, 111, 120], [114, 101, 97, 100, 101, 114], [115, 101, 97, 108], [114, 101, 113, 117, 101, 115, 116], [98, 97, 99, 107], [109, 111, 118, 101], [108, 105, 115, 116], [115, 116, 114, 105, 107, 101], [97, 112, 112, 114, 111, 118, 101], [112, 97, 115, 115], [114, 101, 112, 101, 97, 116], [102, 111, 114, 101, 118, 101, 114], [97, 116], [102, 111, 114, 101, 118, 101, 114], [97, 116], [99, 108, 97, 115, 115], [98, 111, 120], [114, 101, 97, 100, 101, 114], [115, 101, 97, 108], [114, 101, 113, 117, 101, 115, 116], [98, 97, 99, 107], [109, 111, 118, 101], [108, 105, 115, 116], [115, 116, 114, 105, 107, 101], [97, 112, 112, 114, 111, 118, 101], [112, 97, 115, 115], [114, 101, 112, 101, 97, 116], [97, 114, 99, 104, 105, 118, 101]]
def nFlat : List Cond := flatC (Jvm.Cond.and given_1 narrow_1)
def nTm (own : String) (i : Nat) : Term := .field (.string own i) "java/lang/String" "value" "[B"
def nArr (t : Term) (bs : List Nat) : List Cond := [.arrayOf t .byte, .eq (.length t) (.int (Int32.ofNat bs.length))] ++ (List.range bs.length).map fun j => .eq (.elem t (.int (Int32.ofNat j))) (.int (Int32.ofNat (bs.getD j 0)))
def nStr (own : String) (i : Nat) (bs : List Nat) : List Cond := [.exactly (.string own i) "java/lang/String", .eq (.field (.string own i) "java/lang/String" "coder" "B") (.int 0)] ++ nArr (nTm own i) bs
theorem nSeg {I n : Nat} {L : List Cond} (h : (nFlat.drop I).take n = L) : ∀ w ∈ L, w ∈ nFlat := by
  subst h
  intro w hw
  exact List.mem_of_mem_drop (List.mem_of_mem_take hw)
def nIx : List (Nat × Nat) := [(295, 11), (332, 9), (352, 7), (365, 10), (375, 8), (383, 11), (394, 8), (402, 8), (410, 8), (418, 10), (428, 11), (439, 8), (447, 10), (341, 11), (359, 6), (1074, 11), (1094, 6), (1064, 9), (1086, 7), (1101, 10), (1112, 8), (1121, 11), (1133, 8), (1142, 8), (1151, 8), (1160, 10), (1171, 11), (1183, 8), (1192, 10), (1052, 11)]
theorem nStr_seg : ((List.range 30).all fun k => match dStr[k]?, dByt[k]?, nIx[k]? with | some q, some bs, some p => decide ((nFlat.drop p.1).take p.2 = nStr (dOwn q.1) q.2.1 bs) | _, _, _ => false) = true := by decide +kernel
theorem nStr_all {k : Nat} (hk : k < 30) : ∃ q bs, dStr[k]? = some q ∧ dByt[k]? = some bs ∧ ∀ w ∈ nStr (dOwn q.1) q.2.1 bs, w ∈ nFlat := by
  have h := List.all_eq_true.mp nStr_seg k (List.mem_range.mpr hk)
  cases h1 : dStr[k]? with
  | none => rw [h1] at h; cases h
  | some q =>
    cases h2 : dByt[k]? with
    | none => rw [h1, h2] at h; cases h
    | some bs =>
      cases h3 : nIx[k]? with
      | none => rw [h1, h2, h3] at h; cases h
      | some p =>
        rw [h1, h2, h3] at h
        exact ⟨q, bs, rfl, rfl, nSeg (of_decide_eq_true h)⟩
def dOnes : List Nat := [48, 49, 50, 51, 52, 53, 54, 55, 56, 57, 48, 49, 50, 51, 52, 53, 54, 55, 56, 57, 48, 49, 50, 51, 52, 53, 54, 55, 56, 57, 48, 49, 50, 51, 52, 53, 54, 55, 56, 57, 48, 49, 50, 51, 52, 53, 54, 55, 56, 57, 48, 49, 50, 51, 52, 53, 54, 55, 56, 57, 48, 49, 50, 51, 52, 53, 54, 55, 56, 57, 48, 49, 50, 51, 52, 53, 54, 55, 56, 57, 48, 49, 50, 51, 52, 53, 54, 55, 56, 57, 48, 49, 50, 51, 52, 53, 54, 55, 56, 57]
def dTens : List Nat := [48, 48, 48, 48, 48, 48, 48, 48, 48, 48, 49, 49, 49, 49, 49, 49, 49, 49, 49, 49, 50, 50, 50, 50, 50, 50, 50, 50, 50, 50, 51, 51, 51, 51, 51, 51, 51, 51, 51, 51, 52, 52, 52, 52, 52, 52, 52, 52, 52, 52, 53, 53, 53, 53, 53, 53, 53, 53, 53, 53, 54, 54, 54, 54, 54, 54, 54, 54, 54, 54, 55, 55, 55, 55, 55, 55, 55, 55, 55, 55, 56, 56, 56, 56, 56, 56, 56, 56, 56, 56, 57, 57, 57, 57, 57, 57, 57, 57, 57, 57]
theorem nDig_all : (∀ w ∈ nArr (.static "java/lang/Integer" "DigitOnes" "[B") dOnes, w ∈ nFlat) ∧ ∀ w ∈ nArr (.static "java/lang/Integer" "DigitTens" "[B") dTens, w ∈ nFlat := ⟨nSeg (I := 12) (n := 102) (by decide +kernel), nSeg (I := 115) (n := 102) (by decide +kernel)⟩
theorem nRef_all : ∀ q ∈ dStr, Cond.stringRef (dOwn q.1) q.2.1 q.2.2 ∈ lw_tbl := by
  intro q hq
  unfold dStr at hq
  rcases List.mem_cons.mp hq with rfl | hq
  · exact tI 461 (by decide +kernel)
  rcases List.mem_cons.mp hq with rfl | hq
  · exact tI 556 (by decide +kernel)
  rcases List.mem_cons.mp hq with rfl | hq
  · exact tI 584 (by decide +kernel)
  rcases List.mem_cons.mp hq with rfl | hq
  · exact tI 624 (by decide +kernel)
  rcases List.mem_cons.mp hq with rfl | hq
  · exact tI 633 (by decide +kernel)
  rcases List.mem_cons.mp hq with rfl | hq
  · exact tI 646 (by decide +kernel)
  rcases List.mem_cons.mp hq with rfl | hq
  · exact tI 684 (by decide +kernel)
  rcases List.mem_cons.mp hq with rfl | hq
  · exact tI 702 (by decide +kernel)
  rcases List.mem_cons.mp hq with rfl | hq
  · exact tI 707 (by decide +kernel)
  rcases List.mem_cons.mp hq with rfl | hq
  · exact tI 728 (by decide +kernel)
  rcases List.mem_cons.mp hq with rfl | hq
  · exact tI 745 (by decide +kernel)
  rcases List.mem_cons.mp hq with rfl | hq
  · exact tI 750 (by decide +kernel)
  rcases List.mem_cons.mp hq with rfl | hq
  · exact tI 763 (by decide +kernel)
  rcases List.mem_cons.mp hq with rfl | hq
  · exact tI 575 (by decide +kernel)
  rcases List.mem_cons.mp hq with rfl | hq
  · exact tI 605 (by decide +kernel)
  rcases List.mem_cons.mp hq with rfl | hq
  · exact tI 1796 (by decide +kernel)
  rcases List.mem_cons.mp hq with rfl | hq
  · exact tI 1821 (by decide +kernel)
  rcases List.mem_cons.mp hq with rfl | hq
  · exact tI 1783 (by decide +kernel)
  rcases List.mem_cons.mp hq with rfl | hq
  · exact tI 1800 (by decide +kernel)
  rcases List.mem_cons.mp hq with rfl | hq
  · exact tI 1834 (by decide +kernel)
  rcases List.mem_cons.mp hq with rfl | hq
  · exact tI 1839 (by decide +kernel)
  rcases List.mem_cons.mp hq with rfl | hq
  · exact tI 1852 (by decide +kernel)
  rcases List.mem_cons.mp hq with rfl | hq
  · exact tI 1885 (by decide +kernel)
  rcases List.mem_cons.mp hq with rfl | hq
  · exact tI 1902 (by decide +kernel)
  rcases List.mem_cons.mp hq with rfl | hq
  · exact tI 1907 (by decide +kernel)
  rcases List.mem_cons.mp hq with rfl | hq
  · exact tI 1932 (by decide +kernel)
  rcases List.mem_cons.mp hq with rfl | hq
  · exact tI 1941 (by decide +kernel)
  rcases List.mem_cons.mp hq with rfl | hq
  · exact tI 1946 (by decide +kernel)
  rcases List.mem_cons.mp hq with rfl | hq
  · exact tI 1959 (by decide +kernel)
  rcases List.mem_cons.mp hq with rfl | hq
  · exact tI 1752 (by decide +kernel)
  cases hq
theorem nMsg_all : ∀ q ∈ dMsg, Cond.exactly (.string (dOwn q.1) q.2.1) "java/lang/String" ∈ nFlat ∧ Cond.stringRef (dOwn q.1) q.2.1 q.2.2 ∈ lw_tbl := by
  intro q hq
  unfold dMsg at hq
  rcases List.mem_cons.mp hq with rfl | hq
  · exact ⟨List.mem_of_getElem? (i := 260) (by decide +kernel), tI 407 (by decide +kernel)⟩
  rcases List.mem_cons.mp hq with rfl | hq
  · exact ⟨List.mem_of_getElem? (i := 457) (by decide +kernel), tI 769 (by decide +kernel)⟩
  rcases List.mem_cons.mp hq with rfl | hq
  · exact ⟨List.mem_of_getElem? (i := 574) (by decide +kernel), tI 1078 (by decide +kernel)⟩
  rcases List.mem_cons.mp hq with rfl | hq
  · exact ⟨List.mem_of_getElem? (i := 755) (by decide +kernel), tI 1497 (by decide +kernel)⟩
  rcases List.mem_cons.mp hq with rfl | hq
  · exact ⟨List.mem_of_getElem? (i := 780) (by decide +kernel), tI 1529 (by decide +kernel)⟩
  rcases List.mem_cons.mp hq with rfl | hq
  · exact ⟨List.mem_of_getElem? (i := 807) (by decide +kernel), tI 1538 (by decide +kernel)⟩
  rcases List.mem_cons.mp hq with rfl | hq
  · exact ⟨List.mem_of_getElem? (i := 857) (by decide +kernel), tI 1546 (by decide +kernel)⟩
  rcases List.mem_cons.mp hq with rfl | hq
  · exact ⟨List.mem_of_getElem? (i := 881) (by decide +kernel), tI 1554 (by decide +kernel)⟩
  rcases List.mem_cons.mp hq with rfl | hq
  · exact ⟨List.mem_of_getElem? (i := 920) (by decide +kernel), tI 1564 (by decide +kernel)⟩
  rcases List.mem_cons.mp hq with rfl | hq
  · exact ⟨List.mem_of_getElem? (i := 943) (by decide +kernel), tI 1582 (by decide +kernel)⟩
  rcases List.mem_cons.mp hq with rfl | hq
  · exact ⟨List.mem_of_getElem? (i := 973) (by decide +kernel), tI 1599 (by decide +kernel)⟩
  rcases List.mem_cons.mp hq with rfl | hq
  · exact ⟨List.mem_of_getElem? (i := 1019) (by decide +kernel), tI 1622 (by decide +kernel)⟩
  rcases List.mem_cons.mp hq with rfl | hq
  · exact ⟨List.mem_of_getElem? (i := 482) (by decide +kernel), tI 814 (by decide +kernel)⟩
  rcases List.mem_cons.mp hq with rfl | hq
  · exact ⟨List.mem_of_getElem? (i := 535) (by decide +kernel), tI 938 (by decide +kernel)⟩
  rcases List.mem_cons.mp hq with rfl | hq
  · exact ⟨List.mem_of_getElem? (i := 559) (by decide +kernel), tI 974 (by decide +kernel)⟩
  rcases List.mem_cons.mp hq with rfl | hq
  · exact ⟨List.mem_of_getElem? (i := 606) (by decide +kernel), tI 1090 (by decide +kernel)⟩
  rcases List.mem_cons.mp hq with rfl | hq
  · exact ⟨List.mem_of_getElem? (i := 509) (by decide +kernel), tI 886 (by decide +kernel)⟩
  rcases List.mem_cons.mp hq with rfl | hq
  · exact ⟨List.mem_of_getElem? (i := 1003) (by decide +kernel), tI 1614 (by decide +kernel)⟩
  rcases List.mem_cons.mp hq with rfl | hq
  · exact ⟨List.mem_of_getElem? (i := 624) (by decide +kernel), tI 1138 (by decide +kernel)⟩
  rcases List.mem_cons.mp hq with rfl | hq
  · exact ⟨List.mem_of_getElem? (i := 306) (by decide +kernel), tI 525 (by decide +kernel)⟩
  cases hq
theorem str_of {args : Array Value} {s : State} {own : String} {i : Nat} {bs : List Nat} {A : Nat → Prop} (h : ∀ w ∈ nStr own i bs, w.before args s = true) (hN : bs.length < 2 ^ 31) (hA : ∀ a : Nat, a < s.heap.size → ¬ A a) :
    ∃ q : Nat × Nat, (Term.string own i).eval args s none [] s = some (.ref q.1) ∧ va_O "java/lang/String" q.1 A s s.heap ∧ va_OF "java/lang/String" "coder" "B" (.int 0) q.1 A s s.heap ∧ va_OF "java/lang/String" "value" "[B" (.ref q.2) q.1 A s s.heap ∧ va_T .byte q.2 bs.length (fun j => .int (Int32.ofNat (bs.getD j 0))) A s s.heap ∧ (∃ (cell : Cell) (k : Class), s.heap[q.1]? = some cell ∧ s.vm.classes[cell.cls]? = some k ∧ (k.kind = .ordinary → cell.slots.size = k.instanceTypes.size)) := by
  obtain ⟨a, c, cA, kA, q1, q2, q3, q4, q5, q6, q7⟩ := Cond.exactly_spec (args := args) (first := s) (o := none) (s := s) (idx := []) (t := .string own i) (cls := "java/lang/String") (h _ (by simp [nStr]))
  have ha : ∀ w ∈ nArr (nTm own i) bs, w.before args s = true := fun w hw => h w (by unfold nStr; exact List.mem_append_right _ hw)
  obtain ⟨t, ht, hT⟩ := va_Tof (tm := nTm own i) (ty := .byte) (N := bs.length) (f := fun j => .int (Int32.ofNat (bs.getD j 0))) (A := A) hN (ha _ (by simp [nArr])) (va_eqt (ha _ (by simp [nArr]))) (fun j hj => va_eqt (ha _ (by
    unfold nArr
    exact List.mem_append_right _ (List.mem_map.mpr ⟨j, List.mem_range.mpr hj, rfl⟩)))) hA
  exact ⟨(a, t), q1, ⟨cA, q3, q5, by rw [q6]; exact q2, hA a (Array.getElem?_eq_some_iff.mp q3).1⟩, vk_OFof q1 (va_eqt (h _ (by simp [nStr]))) hA, vk_OFof q1 ht hA, hT, cA, kA, q3, by rw [q6]; exact q4, q7⟩
theorem dig_of {args : Array Value} {s : State} {t : Term} {bs : List Nat} {A : Nat → Prop} (h : ∀ w ∈ nArr t bs, w.before args s = true) (hN : bs.length < 2 ^ 31) (hA : ∀ a : Nat, a < s.heap.size → ¬ A a) :
    ∃ q : Nat, t.eval args s none [] s = some (.ref q) ∧ va_T .byte q bs.length (fun j => .int (Int32.ofNat (bs.getD j 0))) A s s.heap :=
  va_Tof (tm := t) (ty := .byte) (N := bs.length) (f := fun j => .int (Int32.ofNat (bs.getD j 0))) (A := A) hN (h _ (by simp [nArr])) (va_eqt (h _ (by simp [nArr]))) (fun j hj => va_eqt (h _ (by
    unfold nArr
    exact List.mem_append_right _ (List.mem_map.mpr ⟨j, List.mem_range.mpr hj, rfl⟩)))) hA
end

/-! ===== the first memory ===== -/
noncomputable section
theorem dInst : ∀ (ci : Nat) (r : vw_C), dCl[ci]? = some r → ∃ n, Cond.instantiable r.1 n ∈ dTb := by
  intro ci r h
  match ci, h with
  | 0, h => cases h; exact ⟨4, dTb_of (tI 565 (by decide +kernel)) rfl⟩
  | 1, h => cases h; exact ⟨4, dTb_of (tI 280 (by decide +kernel)) rfl⟩
  | 2, h => cases h; exact ⟨17, dTb_of (tI 80 (by decide +kernel)) rfl⟩
  | 3, h => cases h; exact ⟨3, dTb_of (tI 243 (by decide +kernel)) rfl⟩
  | 4, h => cases h; exact ⟨7, dTb_of (tI 46 (by decide +kernel)) rfl⟩
  | 5, h => cases h; exact ⟨5, dTb_of (tI 40 (by decide +kernel)) rfl⟩
  | 6, h => cases h; exact ⟨3, dTb_of (tI 121 (by decide +kernel)) rfl⟩
  | 7, h => cases h; exact ⟨5, dTb_of (tI 86 (by decide +kernel)) rfl⟩
  | 8, h => cases h; exact ⟨2, dTb_of (tI 263 (by decide +kernel)) rfl⟩
  | 9, h => cases h; exact ⟨7, dTb_of (tI 32 (by decide +kernel)) rfl⟩
  | 10, h => cases h; exact ⟨11, dTb_of (tI 713 (by decide +kernel)) rfl⟩
  | 11, h => cases h; exact ⟨2, dTb_of (tI 346 (by decide +kernel)) rfl⟩
  | 12, h => cases h; exact ⟨14, dTb_of (tI 364 (by decide +kernel)) rfl⟩
  | n + 13, h => simp [dCl] at h
theorem start_D {args : Array Value} {s : State} (hts : ∀ w ∈ dTb, w.before args s = true) : ∃ D : va_G, va_K D dCl [] s ∧ D.1 100 = s.heap.size := by
  have h0 : ∀ ci : Nat, ∃ q : ClassId × (Nat → Nat), (∀ r : vw_C, dCl[ci]? = some r → u_Kn s r.1 r.2.1 r.2.2 q.1 q.2) ∧ (dCl[ci]? = none → q.1 = s.heap.size) := by
    intro ci
    cases h : dCl[ci]? with
    | none => exact ⟨(s.heap.size, fun _ => 0), ⟨fun r hr => (by cases hr), fun _ => rfl⟩⟩
    | some r =>
      obtain ⟨n, hi⟩ := dInst ci r h
      obtain ⟨cC, iS, hK⟩ := u_known (T := r.2.1) (N := r.2.2) hts (dCl_ok ci r h).1 (hts _ hi)
      exact ⟨(cC, iS), ⟨fun r' hr' => (by cases hr'; exact hK), fun z => (by cases z)⟩⟩
  obtain ⟨q, hq⟩ := Classical.axiomOfChoice h0
  exact ⟨(fun c => (q c).1, fun c => (q c).2), ⟨fun c r hr => (hq c).1 r hr, fun k q hk => by cases hk⟩, (hq 100).2 rfl⟩
def dByt : List (List Nat) := [[97, 114, 99, 104, 105, 118, 101], [99, 108, 97, 115, 115], [98, 111, 120], [114, 101, 97, 100, 101, 114], [115, 101, 97, 108], [114, 101, 113, 117, 101, 115, 116], [98, 97, 99, 107], [109, 111, 118, 101], [108, 105, 115, 116], [115, 116, 114, 105, 107, 101], [97, 112, 112, 114, 111, 118, 101], [112, 97, 115, 115], [114, 101, 112, 101, 97, 116], [102, 111, 114, 101, 118, 101, 114], [97, 116], [97, 114, 99, 104, 105, 118, 101, 32], [59, 99, 108, 97, 115, 115, 32], [32, 102, 111, 114, 101, 118, 101, 114], [], [59, 114, 101, 97, 100, 101, 114, 32], [59, 98, 111, 120, 32], [32, 97, 116, 32], [59, 112, 97, 115, 115, 32], [59, 115, 101, 97, 108, 32], [59, 114, 101, 113, 117, 101, 115, 116, 32], [59, 108, 105, 115, 116], [59, 97, 112, 112, 114, 111, 118, 101], [59, 114, 101, 112, 101, 97, 116, 32], [40, 108, 105, 115, 116, 59, 112, 97, 115, 115, 32, 49, 41], [107], [99, 108, 97, 115, 115], [114], [114, 101, 97, 100, 101, 114], [32], [], [45]]
def nFlat : List Cond := flatC (Jvm.Cond.and given_1 narrow_1)
def nTm (own : String) (i : Nat) : Term := .field (.string own i) "java/lang/String" "value" "[B"
def nArr (t : Term) (bs : List Nat) : List Cond := [.arrayOf t .byte, .eq (.length t) (.int (Int32.ofNat bs.length))] ++ (List.range bs.length).map fun j => .eq (.elem t (.int (Int32.ofNat j))) (.int (Int32.ofNat (bs.getD j 0)))
def nStr (own : String) (i : Nat) (bs : List Nat) : List Cond := [.exactly (.string own i) "java/lang/String", .eq (.field (.string own i) "java/lang/String" "coder" "B") (.int 0)] ++ nArr (nTm own i) bs
theorem nSeg {I n : Nat} {L : List Cond} (h : (nFlat.drop I).take n = L) : ∀ w ∈ L, w ∈ nFlat := by
  subst h
  intro w hw
  exact List.mem_of_mem_drop (List.mem_of_mem_take hw)
def nIx : List (Nat × Nat) := [(524, 11), (561, 9), (582, 7), (595, 10), (606, 8), (614, 11), (625, 8), (633, 8), (641, 8), (649, 10), (659, 11), (670, 8), (678, 10), (571, 11), (589, 6), (302, 12), (314, 11), (346, 12), (358, 4), (362, 12), (389, 9), (398, 8), (406, 10), (416, 10), (426, 13), (439, 9), (448, 12), (460, 12), (472, 17), (325, 5), (337, 9), (374, 5), (379, 10), (1276, 5), (1281, 4), (1286, 5)]
theorem nStr_seg : ((List.range 36).all fun k => match dStr[k]?, dByt[k]?, nIx[k]? with | some q, some bs, some p => decide ((nFlat.drop p.1).take p.2 = nStr (dOwn q.1) q.2.1 bs) | _, _, _ => false) = true := by decide +kernel
theorem nStr_all {k : Nat} (hk : k < 36) : ∃ q bs, dStr[k]? = some q ∧ dByt[k]? = some bs ∧ ∀ w ∈ nStr (dOwn q.1) q.2.1 bs, w ∈ nFlat := by
  have h := List.all_eq_true.mp nStr_seg k (List.mem_range.mpr hk)
  cases h1 : dStr[k]? with
  | none => rw [h1] at h; cases h
  | some q =>
    cases h2 : dByt[k]? with
    | none => rw [h1, h2] at h; cases h
    | some bs =>
      cases h3 : nIx[k]? with
      | none => rw [h1, h2, h3] at h; cases h
      | some p =>
        rw [h1, h2, h3] at h
        exact ⟨q, bs, rfl, rfl, nSeg (of_decide_eq_true h)⟩
def dOnes : List Nat := [48, 49, 50, 51, 52, 53, 54, 55, 56, 57, 48, 49, 50, 51, 52, 53, 54, 55, 56, 57, 48, 49, 50, 51, 52, 53, 54, 55, 56, 57, 48, 49, 50, 51, 52, 53, 54, 55, 56, 57, 48, 49, 50, 51, 52, 53, 54, 55, 56, 57, 48, 49, 50, 51, 52, 53, 54, 55, 56, 57, 48, 49, 50, 51, 52, 53, 54, 55, 56, 57, 48, 49, 50, 51, 52, 53, 54, 55, 56, 57, 48, 49, 50, 51, 52, 53, 54, 55, 56, 57, 48, 49, 50, 51, 52, 53, 54, 55, 56, 57]
def dTens : List Nat := [48, 48, 48, 48, 48, 48, 48, 48, 48, 48, 49, 49, 49, 49, 49, 49, 49, 49, 49, 49, 50, 50, 50, 50, 50, 50, 50, 50, 50, 50, 51, 51, 51, 51, 51, 51, 51, 51, 51, 51, 52, 52, 52, 52, 52, 52, 52, 52, 52, 52, 53, 53, 53, 53, 53, 53, 53, 53, 53, 53, 54, 54, 54, 54, 54, 54, 54, 54, 54, 54, 55, 55, 55, 55, 55, 55, 55, 55, 55, 55, 56, 56, 56, 56, 56, 56, 56, 56, 56, 56, 57, 57, 57, 57, 57, 57, 57, 57, 57, 57]
theorem nDig_all : (∀ w ∈ nArr (.static "java/lang/Integer" "DigitOnes" "[B") dOnes, w ∈ nFlat) ∧ ∀ w ∈ nArr (.static "java/lang/Integer" "DigitTens" "[B") dTens, w ∈ nFlat := ⟨nSeg (I := 10) (n := 102) (by decide +kernel), nSeg (I := 113) (n := 102) (by decide +kernel)⟩
theorem nRef_all : ∀ q ∈ dStr, Cond.stringRef (dOwn q.1) q.2.1 q.2.2 ∈ lw_tbl := by
  intro q hq
  unfold dStr at hq
  rcases List.mem_cons.mp hq with rfl | hq
  · exact tI 961 (by decide +kernel)
  rcases List.mem_cons.mp hq with rfl | hq
  · exact tI 998 (by decide +kernel)
  rcases List.mem_cons.mp hq with rfl | hq
  · exact tI 1026 (by decide +kernel)
  rcases List.mem_cons.mp hq with rfl | hq
  · exact tI 1066 (by decide +kernel)
  rcases List.mem_cons.mp hq with rfl | hq
  · exact tI 1075 (by decide +kernel)
  rcases List.mem_cons.mp hq with rfl | hq
  · exact tI 1088 (by decide +kernel)
  rcases List.mem_cons.mp hq with rfl | hq
  · exact tI 1126 (by decide +kernel)
  rcases List.mem_cons.mp hq with rfl | hq
  · exact tI 1144 (by decide +kernel)
  rcases List.mem_cons.mp hq with rfl | hq
  · exact tI 1149 (by decide +kernel)
  rcases List.mem_cons.mp hq with rfl | hq
  · exact tI 1170 (by decide +kernel)
  rcases List.mem_cons.mp hq with rfl | hq
  · exact tI 1185 (by decide +kernel)
  rcases List.mem_cons.mp hq with rfl | hq
  · exact tI 1190 (by decide +kernel)
  rcases List.mem_cons.mp hq with rfl | hq
  · exact tI 1203 (by decide +kernel)
  rcases List.mem_cons.mp hq with rfl | hq
  · exact tI 1017 (by decide +kernel)
  rcases List.mem_cons.mp hq with rfl | hq
  · exact tI 1047 (by decide +kernel)
  rcases List.mem_cons.mp hq with rfl | hq
  · exact tI 373 (by decide +kernel)
  rcases List.mem_cons.mp hq with rfl | hq
  · exact tI 553 (by decide +kernel)
  rcases List.mem_cons.mp hq with rfl | hq
  · exact tI 695 (by decide +kernel)
  rcases List.mem_cons.mp hq with rfl | hq
  · exact tI 696 (by decide +kernel)
  rcases List.mem_cons.mp hq with rfl | hq
  · exact tI 697 (by decide +kernel)
  rcases List.mem_cons.mp hq with rfl | hq
  · exact tI 703 (by decide +kernel)
  rcases List.mem_cons.mp hq with rfl | hq
  · exact tI 708 (by decide +kernel)
  rcases List.mem_cons.mp hq with rfl | hq
  · exact tI 775 (by decide +kernel)
  rcases List.mem_cons.mp hq with rfl | hq
  · exact tI 792 (by decide +kernel)
  rcases List.mem_cons.mp hq with rfl | hq
  · exact tI 801 (by decide +kernel)
  rcases List.mem_cons.mp hq with rfl | hq
  · exact tI 806 (by decide +kernel)
  rcases List.mem_cons.mp hq with rfl | hq
  · exact tI 819 (by decide +kernel)
  rcases List.mem_cons.mp hq with rfl | hq
  · exact tI 824 (by decide +kernel)
  rcases List.mem_cons.mp hq with rfl | hq
  · exact tI 825 (by decide +kernel)
  rcases List.mem_cons.mp hq with rfl | hq
  · exact tI 559 (by decide +kernel)
  rcases List.mem_cons.mp hq with rfl | hq
  · exact tI 694 (by decide +kernel)
  rcases List.mem_cons.mp hq with rfl | hq
  · exact tI 701 (by decide +kernel)
  rcases List.mem_cons.mp hq with rfl | hq
  · exact tI 702 (by decide +kernel)
  rcases List.mem_cons.mp hq with rfl | hq
  · exact tI 1727 (by decide +kernel)
  rcases List.mem_cons.mp hq with rfl | hq
  · exact tI 1728 (by decide +kernel)
  rcases List.mem_cons.mp hq with rfl | hq
  · exact tI 1750 (by decide +kernel)
  cases hq
theorem nMsg_all : ∀ q ∈ dMsg, Cond.exactly (.string (dOwn q.1) q.2.1) "java/lang/String" ∈ nFlat ∧ Cond.stringRef (dOwn q.1) q.2.1 q.2.2 ∈ lw_tbl := by
  intro q hq
  unfold dMsg at hq
  rcases List.mem_cons.mp hq with rfl | hq
  · exact ⟨List.mem_of_getElem? (i := 489) (by decide +kernel), tI 926 (by decide +kernel)⟩
  rcases List.mem_cons.mp hq with rfl | hq
  · exact ⟨List.mem_of_getElem? (i := 688) (by decide +kernel), tI 1209 (by decide +kernel)⟩
  rcases List.mem_cons.mp hq with rfl | hq
  · exact ⟨List.mem_of_getElem? (i := 805) (by decide +kernel), tI 1303 (by decide +kernel)⟩
  rcases List.mem_cons.mp hq with rfl | hq
  · exact ⟨List.mem_of_getElem? (i := 984) (by decide +kernel), tI 1372 (by decide +kernel)⟩
  rcases List.mem_cons.mp hq with rfl | hq
  · exact ⟨List.mem_of_getElem? (i := 883) (by decide +kernel), tI 1353 (by decide +kernel)⟩
  rcases List.mem_cons.mp hq with rfl | hq
  · exact ⟨List.mem_of_getElem? (i := 910) (by decide +kernel), tI 1361 (by decide +kernel)⟩
  rcases List.mem_cons.mp hq with rfl | hq
  · exact ⟨List.mem_of_getElem? (i := 960) (by decide +kernel), tI 1366 (by decide +kernel)⟩
  rcases List.mem_cons.mp hq with rfl | hq
  · exact ⟨List.mem_of_getElem? (i := 1009) (by decide +kernel), tI 1388 (by decide +kernel)⟩
  rcases List.mem_cons.mp hq with rfl | hq
  · exact ⟨List.mem_of_getElem? (i := 1048) (by decide +kernel), tI 1395 (by decide +kernel)⟩
  rcases List.mem_cons.mp hq with rfl | hq
  · exact ⟨List.mem_of_getElem? (i := 1071) (by decide +kernel), tI 1402 (by decide +kernel)⟩
  rcases List.mem_cons.mp hq with rfl | hq
  · exact ⟨List.mem_of_getElem? (i := 1101) (by decide +kernel), tI 1412 (by decide +kernel)⟩
  rcases List.mem_cons.mp hq with rfl | hq
  · exact ⟨List.mem_of_getElem? (i := 1147) (by decide +kernel), tI 1429 (by decide +kernel)⟩
  rcases List.mem_cons.mp hq with rfl | hq
  · exact ⟨List.mem_of_getElem? (i := 713) (by decide +kernel), tI 1262 (by decide +kernel)⟩
  rcases List.mem_cons.mp hq with rfl | hq
  · exact ⟨List.mem_of_getElem? (i := 766) (by decide +kernel), tI 1288 (by decide +kernel)⟩
  rcases List.mem_cons.mp hq with rfl | hq
  · exact ⟨List.mem_of_getElem? (i := 790) (by decide +kernel), tI 1297 (by decide +kernel)⟩
  rcases List.mem_cons.mp hq with rfl | hq
  · exact ⟨List.mem_of_getElem? (i := 837) (by decide +kernel), tI 1312 (by decide +kernel)⟩
  rcases List.mem_cons.mp hq with rfl | hq
  · exact ⟨List.mem_of_getElem? (i := 740) (by decide +kernel), tI 1277 (by decide +kernel)⟩
  rcases List.mem_cons.mp hq with rfl | hq
  · exact ⟨List.mem_of_getElem? (i := 1131) (by decide +kernel), tI 1424 (by decide +kernel)⟩
  rcases List.mem_cons.mp hq with rfl | hq
  · exact ⟨List.mem_of_getElem? (i := 855) (by decide +kernel), tI 1321 (by decide +kernel)⟩
  rcases List.mem_cons.mp hq with rfl | hq
  · exact ⟨List.mem_of_getElem? (i := 535) (by decide +kernel), tI 972 (by decide +kernel)⟩
  cases hq
theorem str_of {args : Array Value} {s : State} {own : String} {i : Nat} {bs : List Nat} {A : Nat → Prop} (h : ∀ w ∈ nStr own i bs, w.before args s = true) (hN : bs.length < 2 ^ 31) (hA : ∀ a : Nat, a < s.heap.size → ¬ A a) :
    ∃ q : Nat × Nat, (Term.string own i).eval args s none [] s = some (.ref q.1) ∧ va_O "java/lang/String" q.1 A s s.heap ∧ va_OF "java/lang/String" "coder" "B" (.int 0) q.1 A s s.heap ∧ va_OF "java/lang/String" "value" "[B" (.ref q.2) q.1 A s s.heap ∧ va_T .byte q.2 bs.length (fun j => .int (Int32.ofNat (bs.getD j 0))) A s s.heap ∧ (∃ (cell : Cell) (k : Class), s.heap[q.1]? = some cell ∧ s.vm.classes[cell.cls]? = some k ∧ (k.kind = .ordinary → cell.slots.size = k.instanceTypes.size)) := by
  obtain ⟨a, c, cA, kA, q1, q2, q3, q4, q5, q6, q7⟩ := Cond.exactly_spec (args := args) (first := s) (o := none) (s := s) (idx := []) (t := .string own i) (cls := "java/lang/String") (h _ (by simp [nStr]))
  have ha : ∀ w ∈ nArr (nTm own i) bs, w.before args s = true := fun w hw => h w (by unfold nStr; exact List.mem_append_right _ hw)
  obtain ⟨t, ht, hT⟩ := va_Tof (tm := nTm own i) (ty := .byte) (N := bs.length) (f := fun j => .int (Int32.ofNat (bs.getD j 0))) (A := A) hN (ha _ (by simp [nArr])) (va_eqt (ha _ (by simp [nArr]))) (fun j hj => va_eqt (ha _ (by
    unfold nArr
    exact List.mem_append_right _ (List.mem_map.mpr ⟨j, List.mem_range.mpr hj, rfl⟩)))) hA
  exact ⟨(a, t), q1, ⟨cA, q3, q5, by rw [q6]; exact q2, hA a (Array.getElem?_eq_some_iff.mp q3).1⟩, vk_OFof q1 (va_eqt (h _ (by simp [nStr]))) hA, vk_OFof q1 ht hA, hT, cA, kA, q3, by rw [q6]; exact q4, q7⟩
theorem dig_of {args : Array Value} {s : State} {t : Term} {bs : List Nat} {A : Nat → Prop} (h : ∀ w ∈ nArr t bs, w.before args s = true) (hN : bs.length < 2 ^ 31) (hA : ∀ a : Nat, a < s.heap.size → ¬ A a) :
    ∃ q : Nat, t.eval args s none [] s = some (.ref q) ∧ va_T .byte q bs.length (fun j => .int (Int32.ofNat (bs.getD j 0))) A s s.heap :=
  va_Tof (tm := t) (ty := .byte) (N := bs.length) (f := fun j => .int (Int32.ofNat (bs.getD j 0))) (A := A) hN (h _ (by simp [nArr])) (va_eqt (h _ (by simp [nArr]))) (fun j hj => va_eqt (h _ (by
    unfold nArr
    exact List.mem_append_right _ (List.mem_map.mpr ⟨j, List.mem_range.mpr hj, rfl⟩)))) hA
end

noncomputable section
theorem dHl_q0 : Cond.classLink (dOwn 4) 53 (dEx 3) ∈ dTb ∧ 1 ≤ 3 ∧ 3 ≤ 3 := ⟨dTb_of (tI 937 (by decide +kernel)) rfl, by decide, by decide⟩
theorem dHl_q1 : Cond.classLink (dOwn 8) 102 (dEx 1) ∈ dTb ∧ 1 ≤ 1 ∧ 1 ≤ 3 := ⟨dTb_of (tI 1239 (by decide +kernel)) rfl, by decide, by decide⟩
theorem dHl_q2 : Cond.classLink (dOwn 8) 104 (dEx 2) ∈ dTb ∧ 1 ≤ 2 ∧ 2 ≤ 3 := ⟨dTb_of (tI 1240 (by decide +kernel)) rfl, by decide, by decide⟩
theorem dHl_q3 : Cond.classLink (dOwn 8) 106 (dEx 3) ∈ dTb ∧ 1 ≤ 3 ∧ 3 ≤ 3 := ⟨dTb_of (tI 1241 (by decide +kernel)) rfl, by decide, by decide⟩
theorem dHl_ok : ∀ q ∈ dHl, Cond.classLink (dOwn q.1) q.2.1 (dEx q.2.2) ∈ dTb ∧ 1 ≤ q.2.2 ∧ q.2.2 ≤ 3 := List.forall_mem_cons.mpr ⟨dHl_q0, List.forall_mem_cons.mpr ⟨dHl_q1, List.forall_mem_cons.mpr ⟨dHl_q2, List.forall_mem_cons.mpr ⟨dHl_q3, fun _ h => absurd h List.not_mem_nil⟩⟩⟩⟩
def dNwf (own : String) (idx ci : Nat) : Prop := ∃ r : vw_C, dCl[ci]? = some r ∧ Cond.classLink own idx r.1 ∈ dTb ∧ Cond.instantiable r.1 r.2.2 ∈ dTb ∧ Cond.initialized r.1 ∈ dTb ∧ dNf ci = r.2.2
theorem dNw_q0 : dNwf (dOwn 0) 7 5 := ⟨_, rfl, dTb_of (tI 39 (by decide +kernel)) rfl, dTb_of (tI 40 (by decide +kernel)) rfl, dTb_of (tI 20 (by decide +kernel)) rfl, by decide +kernel⟩
theorem dNw_q1 : dNwf (dOwn 0) 16 2 := ⟨_, rfl, dTb_of (tI 240 (by decide +kernel)) rfl, dTb_of (tI 80 (by decide +kernel)) rfl, dTb_of (tI 22 (by decide +kernel)) rfl, by decide +kernel⟩
theorem dNw_q2 : dNwf (dOwn 0) 26 3 := ⟨_, rfl, dTb_of (tI 242 (by decide +kernel)) rfl, dTb_of (tI 243 (by decide +kernel)) rfl, dTb_of (tI 25 (by decide +kernel)) rfl, by decide +kernel⟩
theorem dNw_q3 : dNwf (dOwn 0) 33 8 := ⟨_, rfl, dTb_of (tI 262 (by decide +kernel)) rfl, dTb_of (tI 263 (by decide +kernel)) rfl, dTb_of (tI 26 (by decide +kernel)) rfl, by decide +kernel⟩
theorem dNw_q4 : dNwf (dOwn 0) 40 1 := ⟨_, rfl, dTb_of (tI 279 (by decide +kernel)) rfl, dTb_of (tI 280 (by decide +kernel)) rfl, dTb_of (tI 4 (by decide +kernel)) rfl, by decide +kernel⟩
theorem dNw_q5 : dNwf (dOwn 1) 9 7 := ⟨_, rfl, dTb_of (tI 85 (by decide +kernel)) rfl, dTb_of (tI 86 (by decide +kernel)) rfl, dTb_of (tI 23 (by decide +kernel)) rfl, by decide +kernel⟩
theorem dNw_q6 : dNwf (dOwn 1) 18 6 := ⟨_, rfl, dTb_of (tI 120 (by decide +kernel)) rfl, dTb_of (tI 121 (by decide +kernel)) rfl, dTb_of (tI 24 (by decide +kernel)) rfl, by decide +kernel⟩
theorem dNw_q7 : dNwf (dOwn 2) 9 2 := ⟨_, rfl, dTb_of (tI 248 (by decide +kernel)) rfl, dTb_of (tI 80 (by decide +kernel)) rfl, dTb_of (tI 22 (by decide +kernel)) rfl, by decide +kernel⟩
theorem dNw_q8 : dNwf (dOwn 4) 9 4 := ⟨_, rfl, dTb_of (tI 45 (by decide +kernel)) rfl, dTb_of (tI 46 (by decide +kernel)) rfl, dTb_of (tI 21 (by decide +kernel)) rfl, by decide +kernel⟩
theorem dNw_q9 : dNwf (dOwn 4) 18 2 := ⟨_, rfl, dTb_of (tI 79 (by decide +kernel)) rfl, dTb_of (tI 80 (by decide +kernel)) rfl, dTb_of (tI 22 (by decide +kernel)) rfl, by decide +kernel⟩
theorem dNw_q10 : dNwf (dOwn 7) 9 2 := ⟨_, rfl, dTb_of (tI 268 (by decide +kernel)) rfl, dTb_of (tI 80 (by decide +kernel)) rfl, dTb_of (tI 22 (by decide +kernel)) rfl, by decide +kernel⟩
theorem dNw_q11 : dNwf (dOwn 8) 18 9 := ⟨_, rfl, dTb_of (tI 31 (by decide +kernel)) rfl, dTb_of (tI 32 (by decide +kernel)) rfl, dTb_of (tI 19 (by decide +kernel)) rfl, by decide +kernel⟩
theorem dNw_q12 : dNwf (dOwn 8) 120 12 := ⟨_, rfl, dTb_of (tI 363 (by decide +kernel)) rfl, dTb_of (tI 364 (by decide +kernel)) rfl, dTb_of (tI 2 (by decide +kernel)) rfl, by decide +kernel⟩
theorem dNw_q13 : dNwf (dOwn 8) 264 11 := ⟨_, rfl, dTb_of (tI 345 (by decide +kernel)) rfl, dTb_of (tI 346 (by decide +kernel)) rfl, dTb_of (tI 1 (by decide +kernel)) rfl, by decide +kernel⟩
theorem dNw_q14 : dNwf (dOwn 8) 313 1 := ⟨_, rfl, dTb_of (tI 1661 (by decide +kernel)) rfl, dTb_of (tI 280 (by decide +kernel)) rfl, dTb_of (tI 4 (by decide +kernel)) rfl, by decide +kernel⟩
theorem dNw_q15 : dNwf (dOwn 11) 23 10 := ⟨_, rfl, dTb_of (tI 369 (by decide +kernel)) rfl, dTb_of (tI 713 (by decide +kernel)) rfl, dTb_of (tI 18 (by decide +kernel)) rfl, by decide +kernel⟩
theorem dNw_q16 : dNwf (dOwn 11) 54 1 := ⟨_, rfl, dTb_of (tI 372 (by decide +kernel)) rfl, dTb_of (tI 280 (by decide +kernel)) rfl, dTb_of (tI 4 (by decide +kernel)) rfl, by decide +kernel⟩
theorem dNw_q17 : dNwf (dOwn 15) 18 0 := ⟨_, rfl, dTb_of (tI 564 (by decide +kernel)) rfl, dTb_of (tI 565 (by decide +kernel)) rfl, dTb_of (tI 5 (by decide +kernel)) rfl, by decide +kernel⟩
theorem dNw_ok : ∀ q ∈ dNw, dNwf (dOwn q.1) q.2.1 q.2.2 := List.forall_mem_cons.mpr ⟨dNw_q0, List.forall_mem_cons.mpr ⟨dNw_q1, List.forall_mem_cons.mpr ⟨dNw_q2, List.forall_mem_cons.mpr ⟨dNw_q3, List.forall_mem_cons.mpr ⟨dNw_q4, List.forall_mem_cons.mpr ⟨dNw_q5, List.forall_mem_cons.mpr ⟨dNw_q6, List.forall_mem_cons.mpr ⟨dNw_q7, List.forall_mem_cons.mpr ⟨dNw_q8, List.forall_mem_cons.mpr ⟨dNw_q9, List.forall_mem_cons.mpr ⟨dNw_q10, List.forall_mem_cons.mpr ⟨dNw_q11, List.forall_mem_cons.mpr ⟨dNw_q12, List.forall_mem_cons.mpr ⟨dNw_q13, List.forall_mem_cons.mpr ⟨dNw_q14, List.forall_mem_cons.mpr ⟨dNw_q15, List.forall_mem_cons.mpr ⟨dNw_q16, List.forall_mem_cons.mpr ⟨dNw_q17, fun _ h => absurd h List.not_mem_nil⟩⟩⟩⟩⟩⟩⟩⟩⟩⟩⟩⟩⟩⟩⟩⟩⟩⟩
theorem dKi_q0 : Cond.constant (dOwn 10) 17 (Int32.ofNat 2147483647) ∈ dTb := dTb_of (tI 362 (by decide +kernel)) rfl
theorem dKi_q1 : Cond.constant (dOwn 12) 38 (Int32.ofNat 2147483631) ∈ dTb := dTb_of (tI 389 (by decide +kernel)) rfl
theorem dKi_q2 : Cond.constant (dOwn 12) 39 (Int32.ofNat 2147483647) ∈ dTb := dTb_of (tI 390 (by decide +kernel)) rfl
theorem dKi_q3 : Cond.constant (dOwn 18) 200 (Int32.ofNat 2147483639) ∈ dTb := dTb_of (tI 422 (by decide +kernel)) rfl
theorem dKi_ok : ∀ q ∈ dKi, Cond.constant (dOwn q.1) q.2.1 (Int32.ofNat q.2.2) ∈ dTb := List.forall_mem_cons.mpr ⟨dKi_q0, List.forall_mem_cons.mpr ⟨dKi_q1, List.forall_mem_cons.mpr ⟨dKi_q2, List.forall_mem_cons.mpr ⟨dKi_q3, fun _ h => absurd h List.not_mem_nil⟩⟩⟩⟩
theorem dKl_q0 : Cond.constantLong (dOwn 8) 100 (Int64.ofNat 18446744073709451617) ∈ dTb := dTb_of (tI 1504 (by decide +kernel)) rfl
theorem dKl_ok : ∀ q ∈ dKl, Cond.constantLong (dOwn q.1) q.2.1 (Int64.ofNat q.2.2) ∈ dTb := List.forall_mem_cons.mpr ⟨dKl_q0, fun _ h => absurd h List.not_mem_nil⟩
def dSn (k : Nat) : String × String × String := if k = 0 then ("java/lang/String", "COMPACT_STRINGS", "Z") else if k = 1000 then ("java/lang/Integer", "DigitOnes", "[B") else ("java/lang/Integer", "DigitTens", "[B")
theorem dSt_q0 : Cond.fieldLink (dOwn 12) 18 (dSn 0).1 (dSn 0).2.1 (dSn 0).2.2 ∈ dTb ∧ (0 = 0 ∨ 0 = 1000 ∨ 0 = 1001) := ⟨dTb_of (tI 288 (by decide +kernel)) rfl, by decide⟩
theorem dSt_q1 : Cond.fieldLink (dOwn 13) 83 (dSn 1000).1 (dSn 1000).2.1 (dSn 1000).2.2 ∈ dTb ∧ (1000 = 0 ∨ 1000 = 1000 ∨ 1000 = 1001) := ⟨dTb_of (tI 519 (by decide +kernel)) rfl, by decide⟩
theorem dSt_q2 : Cond.fieldLink (dOwn 13) 87 (dSn 1001).1 (dSn 1001).2.1 (dSn 1001).2.2 ∈ dTb ∧ (1001 = 0 ∨ 1001 = 1000 ∨ 1001 = 1001) := ⟨dTb_of (tI 521 (by decide +kernel)) rfl, by decide⟩
theorem dSt_q3 : Cond.fieldLink (dOwn 14) 38 (dSn 0).1 (dSn 0).2.1 (dSn 0).2.2 ∈ dTb ∧ (0 = 0 ∨ 0 = 1000 ∨ 0 = 1001) := ⟨dTb_of (tI 388 (by decide +kernel)) rfl, by decide⟩
theorem dSt_ok : ∀ q ∈ dSt, Cond.fieldLink (dOwn q.1) q.2.1 (dSn q.2.2).1 (dSn q.2.2).2.1 (dSn q.2.2).2.2 ∈ dTb ∧ (q.2.2 = 0 ∨ q.2.2 = 1000 ∨ q.2.2 = 1001) := List.forall_mem_cons.mpr ⟨dSt_q0, List.forall_mem_cons.mpr ⟨dSt_q1, List.forall_mem_cons.mpr ⟨dSt_q2, List.forall_mem_cons.mpr ⟨dSt_q3, fun _ h => absurd h List.not_mem_nil⟩⟩⟩⟩
theorem dAl_q0 : Cond.classLink (dOwn 2) 9 "RetentionArchive$Archive" ∈ dTb := dTb_of (tI 248 (by decide +kernel)) rfl
theorem dAl_q1 : Cond.classLink (dOwn 7) 9 "RetentionArchive$Archive" ∈ dTb := dTb_of (tI 268 (by decide +kernel)) rfl
theorem dAl_ok : ∀ q ∈ dAl, Cond.classLink (dOwn q.1) q.2 "RetentionArchive$Archive" ∈ dTb := List.forall_mem_cons.mpr ⟨dAl_q0, List.forall_mem_cons.mpr ⟨dAl_q1, fun _ h => absurd h List.not_mem_nil⟩⟩
theorem dAb_q0 : Cond.classLink (dOwn 11) 23 "RetentionArchiveLaw$Box" ∈ dTb := dTb_of (tI 369 (by decide +kernel)) rfl
theorem dAb_ok : ∀ q ∈ dAb, Cond.classLink (dOwn q.1) q.2 "RetentionArchiveLaw$Box" ∈ dTb := List.forall_mem_cons.mpr ⟨dAb_q0, fun _ h => absurd h List.not_mem_nil⟩
theorem dKb_q0 : Cond.classLink (dOwn 17) 311 "[B" ∈ dTb := dTb_of (tI 435 (by decide +kernel)) rfl
theorem dKb_ok : ∀ q ∈ dKb, Cond.classLink (dOwn q.1) q.2 "[B" ∈ dTb := List.forall_mem_cons.mpr ⟨dKb_q0, fun _ h => absurd h List.not_mem_nil⟩
theorem dKc_q0 : Cond.methodLink (dOwn 17) 310 ⟨"[B", "clone", "()Ljava/lang/Object;"⟩ ∈ dTb := dTb_of (tI 429 (by decide +kernel)) rfl
theorem dKc_ok : ∀ q ∈ dKc, Cond.methodLink (dOwn q.1) q.2 ⟨"[B", "clone", "()Ljava/lang/Object;"⟩ ∈ dTb := List.forall_mem_cons.mpr ⟨dKc_q0, fun _ h => absurd h List.not_mem_nil⟩
theorem cl_same : Cond.sameMethod "[B" "java/lang/Object" "clone" "()Ljava/lang/Object;" ∈ dTb := dTb_of (tI 430 (by decide +kernel)) rfl
theorem cl_nat : Cond.native ⟨"java/lang/Object", "clone", "()Ljava/lang/Object;"⟩ ∈ dTb := dTb_of (tI 431 (by decide +kernel)) rfl
theorem cl_inst : Cond.instanceMethod ⟨"java/lang/Object", "clone", "()Ljava/lang/Object;"⟩ ∈ dTb := dTb_of (tI 432 (by decide +kernel)) rfl
theorem cl_sel : Cond.selects "[B" ⟨"[B", "clone", "()Ljava/lang/Object;"⟩ ⟨"java/lang/Object", "clone", "()Ljava/lang/Object;"⟩ ∈ dTb := dTb_of (tI 433 (by decide +kernel)) rfl
theorem cl_cast : Cond.castable "[B" "java/lang/Cloneable" ∈ dNG := by decide +kernel
theorem ar_over6 : Cond.arrayOver (.object "RetentionArchiveLaw$Box") ∈ lw_tbl := tI 370 (by decide +kernel)
theorem ar_over : Cond.arrayOver (.object "RetentionArchive$Archive") ∈ lw_tbl := tI 249 (by decide +kernel)
theorem ar_int : Cond.arrayClass .int ∈ dTb := dTb_of (tI 78 (by decide +kernel)) rfl
theorem ar_long : Cond.arrayClass .long ∈ dTb := dTb_of (tI 118 (by decide +kernel)) rfl
theorem ar_byte : Cond.arrayClass .byte ∈ dTb := dTb_of (tI 77 (by decide +kernel)) rfl
theorem ar_boolean : Cond.arrayClass .boolean ∈ dTb := dTb_of (tI 119 (by decide +kernel)) rfl
theorem dOi_q0 : Cond.methodLink (dOwn 0) 1 Lib.objectInit ∈ dTb := dTb_of (tI 36 (by decide +kernel)) rfl
theorem dOi_q1 : Cond.methodLink (dOwn 1) 3 Lib.objectInit ∈ dTb := dTb_of (tI 84 (by decide +kernel)) rfl
theorem dOi_q2 : Cond.methodLink (dOwn 2) 3 Lib.objectInit ∈ dTb := dTb_of (tI 247 (by decide +kernel)) rfl
theorem dOi_q3 : Cond.methodLink (dOwn 3) 3 Lib.objectInit ∈ dTb := dTb_of (tI 50 (by decide +kernel)) rfl
theorem dOi_q4 : Cond.methodLink (dOwn 4) 3 Lib.objectInit ∈ dTb := dTb_of (tI 44 (by decide +kernel)) rfl
theorem dOi_q5 : Cond.methodLink (dOwn 5) 3 Lib.objectInit ∈ dTb := dTb_of (tI 125 (by decide +kernel)) rfl
theorem dOi_q6 : Cond.methodLink (dOwn 6) 3 Lib.objectInit ∈ dTb := dTb_of (tI 90 (by decide +kernel)) rfl
theorem dOi_q7 : Cond.methodLink (dOwn 7) 3 Lib.objectInit ∈ dTb := dTb_of (tI 267 (by decide +kernel)) rfl
theorem dOi_q8 : Cond.methodLink (dOwn 9) 1 Lib.objectInit ∈ dTb := dTb_of (tI 717 (by decide +kernel)) rfl
theorem dOi_q9 : Cond.methodLink (dOwn 10) 1 Lib.objectInit ∈ dTb := dTb_of (tI 350 (by decide +kernel)) rfl
theorem dOi_q10 : Cond.methodLink (dOwn 11) 1 Lib.objectInit ∈ dTb := dTb_of (tI 368 (by decide +kernel)) rfl
theorem dOi_q11 : Cond.methodLink (dOwn 12) 3 Lib.objectInit ∈ dTb := dTb_of (tI 287 (by decide +kernel)) rfl
theorem dOi_q12 : Cond.methodLink (dOwn 14) 1 Lib.objectInit ∈ dTb := dTb_of (tI 572 (by decide +kernel)) rfl
theorem dOi_ok : ∀ q ∈ dOi, Cond.methodLink (dOwn q.1) q.2 Lib.objectInit ∈ dTb := List.forall_mem_cons.mpr ⟨dOi_q0, List.forall_mem_cons.mpr ⟨dOi_q1, List.forall_mem_cons.mpr ⟨dOi_q2, List.forall_mem_cons.mpr ⟨dOi_q3, List.forall_mem_cons.mpr ⟨dOi_q4, List.forall_mem_cons.mpr ⟨dOi_q5, List.forall_mem_cons.mpr ⟨dOi_q6, List.forall_mem_cons.mpr ⟨dOi_q7, List.forall_mem_cons.mpr ⟨dOi_q8, List.forall_mem_cons.mpr ⟨dOi_q9, List.forall_mem_cons.mpr ⟨dOi_q10, List.forall_mem_cons.mpr ⟨dOi_q11, List.forall_mem_cons.mpr ⟨dOi_q12, fun _ h => absurd h List.not_mem_nil⟩⟩⟩⟩⟩⟩⟩⟩⟩⟩⟩⟩⟩
theorem oi_inst : Cond.instanceMethod Lib.objectInit ∈ dTb := dTb_of (tI 37 (by decide +kernel)) rfl
theorem oi_code : Cond.code Lib.objectInit ⟨#[0xb1]⟩ 1 none ∈ dTb := dTb_of (tI 38 (by decide +kernel)) rfl
theorem dCi_q0 : Cond.methodLink (dOwn 1) 83 arraycopyName ∈ dTb := dTb_of (tI 1184 (by decide +kernel)) rfl
theorem dCi_q1 : Cond.methodLink (dOwn 5) 23 arraycopyName ∈ dTb := dTb_of (tI 1224 (by decide +kernel)) rfl
theorem dCi_q2 : Cond.methodLink (dOwn 6) 30 arraycopyName ∈ dTb := dTb_of (tI 1219 (by decide +kernel)) rfl
theorem dCi_q3 : Cond.methodLink (dOwn 14) 212 arraycopyName ∈ dTb := dTb_of (tI 504 (by decide +kernel)) rfl
theorem dCi_q4 : Cond.methodLink (dOwn 17) 150 arraycopyName ∈ dTb := dTb_of (tI 439 (by decide +kernel)) rfl
theorem dCi_ok : ∀ q ∈ dCi, Cond.methodLink (dOwn q.1) q.2 arraycopyName ∈ dTb := List.forall_mem_cons.mpr ⟨dCi_q0, List.forall_mem_cons.mpr ⟨dCi_q1, List.forall_mem_cons.mpr ⟨dCi_q2, List.forall_mem_cons.mpr ⟨dCi_q3, List.forall_mem_cons.mpr ⟨dCi_q4, fun _ h => absurd h List.not_mem_nil⟩⟩⟩⟩⟩
theorem ac_nat : Cond.native arraycopyName ∈ dTb := dTb_of (tI 441 (by decide +kernel)) rfl
theorem ac_st : Cond.static arraycopyName ∈ dTb := dTb_of (tI 440 (by decide +kernel)) rfl
theorem ac_in : Cond.initialized "java/lang/System" ∈ dTb := dTb_of (tI 10 (by decide +kernel)) rfl
def dMn (k : Nat) : MethodName := match k with
  | 0 => Lib.Math.min.name
  | 1 => Lib.Math.max.name
  | _ => Lib.Math.abs.name
theorem dCm_q0 : Cond.methodLink (dOwn 1) 179 (dMn 2) ∈ dTb ∧ 2 < 3 := ⟨dTb_of (tI 1628 (by decide +kernel)) rfl, by decide⟩
theorem dCm_q1 : Cond.methodLink (dOwn 2) 29 (dMn 0) ∈ dTb ∧ 0 < 3 := ⟨dTb_of (tI 1342 (by decide +kernel)) rfl, by decide⟩
theorem dCm_q2 : Cond.methodLink (dOwn 8) 268 (dMn 1) ∈ dTb ∧ 1 < 3 := ⟨dTb_of (tI 1634 (by decide +kernel)) rfl, by decide⟩
theorem dCm_q3 : Cond.methodLink (dOwn 12) 138 (dMn 0) ∈ dTb ∧ 0 < 3 := ⟨dTb_of (tI 1380 (by decide +kernel)) rfl, by decide⟩
theorem dCm_q4 : Cond.methodLink (dOwn 17) 304 (dMn 0) ∈ dTb ∧ 0 < 3 := ⟨dTb_of (tI 436 (by decide +kernel)) rfl, by decide⟩
theorem dCm_q5 : Cond.methodLink (dOwn 18) 194 (dMn 1) ∈ dTb ∧ 1 < 3 := ⟨dTb_of (tI 419 (by decide +kernel)) rfl, by decide⟩
theorem dCm_ok : ∀ q ∈ dCm, Cond.methodLink (dOwn q.1) q.2.1 (dMn q.2.2) ∈ dTb ∧ q.2.2 < 3 := List.forall_mem_cons.mpr ⟨dCm_q0, List.forall_mem_cons.mpr ⟨dCm_q1, List.forall_mem_cons.mpr ⟨dCm_q2, List.forall_mem_cons.mpr ⟨dCm_q3, List.forall_mem_cons.mpr ⟨dCm_q4, List.forall_mem_cons.mpr ⟨dCm_q5, fun _ h => absurd h List.not_mem_nil⟩⟩⟩⟩⟩⟩
theorem mt_in : Cond.initialized "java/lang/Math" ∈ dTb := dTb_of (tI 8 (by decide +kernel)) rfl
theorem mt_st0 : Cond.static (dMn 0) ∈ dTb := dTb_of (tI 437 (by decide +kernel)) rfl
theorem mt_cd0 : Cond.code Lib.Math.min.name Lib.Math.min.code 2 (some .int) ∈ dTb := dTb_of (tI 438 (by decide +kernel)) rfl
theorem mt_st1 : Cond.static (dMn 1) ∈ dTb := dTb_of (tI 420 (by decide +kernel)) rfl
theorem mt_cd1 : Cond.code Lib.Math.max.name Lib.Math.max.code 2 (some .int) ∈ dTb := dTb_of (tI 421 (by decide +kernel)) rfl
theorem mt_st2 : Cond.static (dMn 2) ∈ dTb := dTb_of (tI 1629 (by decide +kernel)) rfl
theorem mt_cd2 : Cond.code Lib.Math.abs.name Lib.Math.abs.code 1 (some .int) ∈ dTb := dTb_of (tI 1630 (by decide +kernel)) rfl
end

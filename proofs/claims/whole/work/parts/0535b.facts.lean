noncomputable section
theorem dHl_q0 : Cond.classLink (dOwn 4) 53 (dEx 3) ∈ dTb ∧ 1 ≤ 3 ∧ 3 ≤ 3 := ⟨dTb_of (tI 437 (by decide +kernel)) rfl, by decide, by decide⟩
theorem dHl_q1 : Cond.classLink (dOwn 8) 13 (dEx 2) ∈ dTb ∧ 1 ≤ 2 ∧ 2 ≤ 3 := ⟨dTb_of (tI 358 (by decide +kernel)) rfl, by decide, by decide⟩
theorem dHl_q2 : Cond.classLink (dOwn 8) 15 (dEx 3) ∈ dTb ∧ 1 ≤ 3 ∧ 3 ≤ 3 := ⟨dTb_of (tI 359 (by decide +kernel)) rfl, by decide, by decide⟩
theorem dHl_q3 : Cond.classLink (dOwn 8) 21 (dEx 1) ∈ dTb ∧ 1 ≤ 1 ∧ 1 ≤ 3 := ⟨dTb_of (tI 796 (by decide +kernel)) rfl, by decide, by decide⟩
theorem dHl_ok : ∀ q ∈ dHl, Cond.classLink (dOwn q.1) q.2.1 (dEx q.2.2) ∈ dTb ∧ 1 ≤ q.2.2 ∧ q.2.2 ≤ 3 := List.forall_mem_cons.mpr ⟨dHl_q0, List.forall_mem_cons.mpr ⟨dHl_q1, List.forall_mem_cons.mpr ⟨dHl_q2, List.forall_mem_cons.mpr ⟨dHl_q3, fun _ h => absurd h List.not_mem_nil⟩⟩⟩⟩
def dNwf (own : String) (idx ci : Nat) : Prop := ∃ r : vw_C, dCl[ci]? = some r ∧ Cond.classLink own idx r.1 ∈ dTb ∧ Cond.instantiable r.1 r.2.2 ∈ dTb ∧ Cond.initialized r.1 ∈ dTb ∧ dNf ci = r.2.2
theorem dNw_q0 : dNwf (dOwn 0) 7 5 := ⟨_, rfl, dTb_of (tI 37 (by decide +kernel)) rfl, dTb_of (tI 38 (by decide +kernel)) rfl, dTb_of (tI 2 (by decide +kernel)) rfl, by decide +kernel⟩
theorem dNw_q1 : dNwf (dOwn 0) 16 2 := ⟨_, rfl, dTb_of (tI 238 (by decide +kernel)) rfl, dTb_of (tI 78 (by decide +kernel)) rfl, dTb_of (tI 4 (by decide +kernel)) rfl, by decide +kernel⟩
theorem dNw_q2 : dNwf (dOwn 0) 26 3 := ⟨_, rfl, dTb_of (tI 240 (by decide +kernel)) rfl, dTb_of (tI 241 (by decide +kernel)) rfl, dTb_of (tI 7 (by decide +kernel)) rfl, by decide +kernel⟩
theorem dNw_q3 : dNwf (dOwn 0) 33 8 := ⟨_, rfl, dTb_of (tI 260 (by decide +kernel)) rfl, dTb_of (tI 261 (by decide +kernel)) rfl, dTb_of (tI 8 (by decide +kernel)) rfl, by decide +kernel⟩
theorem dNw_q4 : dNwf (dOwn 0) 40 1 := ⟨_, rfl, dTb_of (tI 277 (by decide +kernel)) rfl, dTb_of (tI 278 (by decide +kernel)) rfl, dTb_of (tI 10 (by decide +kernel)) rfl, by decide +kernel⟩
theorem dNw_q5 : dNwf (dOwn 1) 9 7 := ⟨_, rfl, dTb_of (tI 83 (by decide +kernel)) rfl, dTb_of (tI 84 (by decide +kernel)) rfl, dTb_of (tI 5 (by decide +kernel)) rfl, by decide +kernel⟩
theorem dNw_q6 : dNwf (dOwn 1) 18 6 := ⟨_, rfl, dTb_of (tI 118 (by decide +kernel)) rfl, dTb_of (tI 119 (by decide +kernel)) rfl, dTb_of (tI 6 (by decide +kernel)) rfl, by decide +kernel⟩
theorem dNw_q7 : dNwf (dOwn 2) 9 2 := ⟨_, rfl, dTb_of (tI 246 (by decide +kernel)) rfl, dTb_of (tI 78 (by decide +kernel)) rfl, dTb_of (tI 4 (by decide +kernel)) rfl, by decide +kernel⟩
theorem dNw_q8 : dNwf (dOwn 4) 9 4 := ⟨_, rfl, dTb_of (tI 43 (by decide +kernel)) rfl, dTb_of (tI 44 (by decide +kernel)) rfl, dTb_of (tI 3 (by decide +kernel)) rfl, by decide +kernel⟩
theorem dNw_q9 : dNwf (dOwn 4) 18 2 := ⟨_, rfl, dTb_of (tI 77 (by decide +kernel)) rfl, dTb_of (tI 78 (by decide +kernel)) rfl, dTb_of (tI 4 (by decide +kernel)) rfl, by decide +kernel⟩
theorem dNw_q10 : dNwf (dOwn 7) 9 2 := ⟨_, rfl, dTb_of (tI 266 (by decide +kernel)) rfl, dTb_of (tI 78 (by decide +kernel)) rfl, dTb_of (tI 4 (by decide +kernel)) rfl, by decide +kernel⟩
theorem dNw_q11 : dNwf (dOwn 8) 8 9 := ⟨_, rfl, dTb_of (tI 29 (by decide +kernel)) rfl, dTb_of (tI 30 (by decide +kernel)) rfl, dTb_of (tI 1 (by decide +kernel)) rfl, by decide +kernel⟩
theorem dNw_q12 : dNwf (dOwn 8) 201 10 := ⟨_, rfl, dTb_of (tI 1623 (by decide +kernel)) rfl, dTb_of (tI 1624 (by decide +kernel)) rfl, dTb_of (tI 13 (by decide +kernel)) rfl, by decide +kernel⟩
theorem dNw_ok : ∀ q ∈ dNw, dNwf (dOwn q.1) q.2.1 q.2.2 := List.forall_mem_cons.mpr ⟨dNw_q0, List.forall_mem_cons.mpr ⟨dNw_q1, List.forall_mem_cons.mpr ⟨dNw_q2, List.forall_mem_cons.mpr ⟨dNw_q3, List.forall_mem_cons.mpr ⟨dNw_q4, List.forall_mem_cons.mpr ⟨dNw_q5, List.forall_mem_cons.mpr ⟨dNw_q6, List.forall_mem_cons.mpr ⟨dNw_q7, List.forall_mem_cons.mpr ⟨dNw_q8, List.forall_mem_cons.mpr ⟨dNw_q9, List.forall_mem_cons.mpr ⟨dNw_q10, List.forall_mem_cons.mpr ⟨dNw_q11, List.forall_mem_cons.mpr ⟨dNw_q12, fun _ h => absurd h List.not_mem_nil⟩⟩⟩⟩⟩⟩⟩⟩⟩⟩⟩⟩⟩
theorem dKi_q0 : Cond.constant (dOwn 10) 39 (Int32.ofNat 2147483647) ∈ dTb := dTb_of (tI 1246 (by decide +kernel)) rfl
theorem dKi_q1 : Cond.constant (dOwn 16) 200 (Int32.ofNat 2147483639) ∈ dTb := dTb_of (tI 1242 (by decide +kernel)) rfl
theorem dKi_ok : ∀ q ∈ dKi, Cond.constant (dOwn q.1) q.2.1 (Int32.ofNat q.2.2) ∈ dTb := List.forall_mem_cons.mpr ⟨dKi_q0, List.forall_mem_cons.mpr ⟨dKi_q1, fun _ h => absurd h List.not_mem_nil⟩⟩
theorem dKl_q0 : Cond.constantLong (dOwn 9) 328 (Int64.ofNat 5) ∈ dTb := dTb_of (tI 2053 (by decide +kernel)) rfl
theorem dKl_q1 : Cond.constantLong (dOwn 9) 345 (Int64.ofNat 100) ∈ dTb := dTb_of (tI 2166 (by decide +kernel)) rfl
theorem dKl_q2 : Cond.constantLong (dOwn 9) 356 (Int64.ofNat 48) ∈ dTb := dTb_of (tI 2183 (by decide +kernel)) rfl
theorem dKl_q3 : Cond.constantLong (dOwn 9) 370 (Int64.ofNat 50) ∈ dTb := dTb_of (tI 2228 (by decide +kernel)) rfl
theorem dKl_q4 : Cond.constantLong (dOwn 9) 375 (Int64.ofNat 1800) ∈ dTb := dTb_of (tI 2237 (by decide +kernel)) rfl
theorem dKl_q5 : Cond.constantLong (dOwn 9) 377 (Int64.ofNat 9999) ∈ dTb := dTb_of (tI 2246 (by decide +kernel)) rfl
theorem dKl_q6 : Cond.constantLong (dOwn 9) 379 (Int64.ofNat 20) ∈ dTb := dTb_of (tI 2263 (by decide +kernel)) rfl
theorem dKl_ok : ∀ q ∈ dKl, Cond.constantLong (dOwn q.1) q.2.1 (Int64.ofNat q.2.2) ∈ dTb := List.forall_mem_cons.mpr ⟨dKl_q0, List.forall_mem_cons.mpr ⟨dKl_q1, List.forall_mem_cons.mpr ⟨dKl_q2, List.forall_mem_cons.mpr ⟨dKl_q3, List.forall_mem_cons.mpr ⟨dKl_q4, List.forall_mem_cons.mpr ⟨dKl_q5, List.forall_mem_cons.mpr ⟨dKl_q6, fun _ h => absurd h List.not_mem_nil⟩⟩⟩⟩⟩⟩⟩
def dSn (k : Nat) : String × String × String := if k = 0 then ("java/lang/String", "COMPACT_STRINGS", "Z") else if k = 1000 then ("java/lang/Integer", "DigitOnes", "[B") else ("java/lang/Integer", "DigitTens", "[B")
theorem dSt_q0 : Cond.fieldLink (dOwn 10) 18 (dSn 0).1 (dSn 0).2.1 (dSn 0).2.2 ∈ dTb ∧ (0 = 0 ∨ 0 = 1000 ∨ 0 = 1001) := ⟨dTb_of (tI 286 (by decide +kernel)) rfl, by decide⟩
theorem dSt_q1 : Cond.fieldLink (dOwn 11) 83 (dSn 1000).1 (dSn 1000).2.1 (dSn 1000).2.2 ∈ dTb ∧ (1000 = 0 ∨ 1000 = 1000 ∨ 1000 = 1001) := ⟨dTb_of (tI 1329 (by decide +kernel)) rfl, by decide⟩
theorem dSt_q2 : Cond.fieldLink (dOwn 11) 87 (dSn 1001).1 (dSn 1001).2.1 (dSn 1001).2.2 ∈ dTb ∧ (1001 = 0 ∨ 1001 = 1000 ∨ 1001 = 1001) := ⟨dTb_of (tI 1331 (by decide +kernel)) rfl, by decide⟩
theorem dSt_q3 : Cond.fieldLink (dOwn 12) 38 (dSn 0).1 (dSn 0).2.1 (dSn 0).2.2 ∈ dTb ∧ (0 = 0 ∨ 0 = 1000 ∨ 0 = 1001) := ⟨dTb_of (tI 474 (by decide +kernel)) rfl, by decide⟩
theorem dSt_ok : ∀ q ∈ dSt, Cond.fieldLink (dOwn q.1) q.2.1 (dSn q.2.2).1 (dSn q.2.2).2.1 (dSn q.2.2).2.2 ∈ dTb ∧ (q.2.2 = 0 ∨ q.2.2 = 1000 ∨ q.2.2 = 1001) := List.forall_mem_cons.mpr ⟨dSt_q0, List.forall_mem_cons.mpr ⟨dSt_q1, List.forall_mem_cons.mpr ⟨dSt_q2, List.forall_mem_cons.mpr ⟨dSt_q3, fun _ h => absurd h List.not_mem_nil⟩⟩⟩⟩
theorem dAl_q0 : Cond.classLink (dOwn 2) 9 "RetentionArchive$Archive" ∈ dTb := dTb_of (tI 246 (by decide +kernel)) rfl
theorem dAl_q1 : Cond.classLink (dOwn 7) 9 "RetentionArchive$Archive" ∈ dTb := dTb_of (tI 266 (by decide +kernel)) rfl
theorem dAl_ok : ∀ q ∈ dAl, Cond.classLink (dOwn q.1) q.2 "RetentionArchive$Archive" ∈ dTb := List.forall_mem_cons.mpr ⟨dAl_q0, List.forall_mem_cons.mpr ⟨dAl_q1, fun _ h => absurd h List.not_mem_nil⟩⟩
theorem ar_over : Cond.arrayOver (.object "RetentionArchive$Archive") ∈ lw_tbl := tI 247 (by decide +kernel)
theorem ar_int : Cond.arrayClass .int ∈ dTb := dTb_of (tI 76 (by decide +kernel)) rfl
theorem ar_long : Cond.arrayClass .long ∈ dTb := dTb_of (tI 116 (by decide +kernel)) rfl
theorem ar_double : Cond.arrayClass .double ∈ dTb := dTb_of (tI 2284 (by decide +kernel)) rfl
theorem ar_byte : Cond.arrayClass .byte ∈ dTb := dTb_of (tI 75 (by decide +kernel)) rfl
theorem ar_boolean : Cond.arrayClass .boolean ∈ dTb := dTb_of (tI 117 (by decide +kernel)) rfl
theorem dOi_q0 : Cond.methodLink (dOwn 0) 1 Lib.objectInit ∈ dTb := dTb_of (tI 34 (by decide +kernel)) rfl
theorem dOi_q1 : Cond.methodLink (dOwn 1) 3 Lib.objectInit ∈ dTb := dTb_of (tI 82 (by decide +kernel)) rfl
theorem dOi_q2 : Cond.methodLink (dOwn 2) 3 Lib.objectInit ∈ dTb := dTb_of (tI 245 (by decide +kernel)) rfl
theorem dOi_q3 : Cond.methodLink (dOwn 3) 3 Lib.objectInit ∈ dTb := dTb_of (tI 48 (by decide +kernel)) rfl
theorem dOi_q4 : Cond.methodLink (dOwn 4) 3 Lib.objectInit ∈ dTb := dTb_of (tI 42 (by decide +kernel)) rfl
theorem dOi_q5 : Cond.methodLink (dOwn 5) 3 Lib.objectInit ∈ dTb := dTb_of (tI 123 (by decide +kernel)) rfl
theorem dOi_q6 : Cond.methodLink (dOwn 6) 3 Lib.objectInit ∈ dTb := dTb_of (tI 88 (by decide +kernel)) rfl
theorem dOi_q7 : Cond.methodLink (dOwn 7) 3 Lib.objectInit ∈ dTb := dTb_of (tI 265 (by decide +kernel)) rfl
theorem dOi_q8 : Cond.methodLink (dOwn 9) 1 Lib.objectInit ∈ dTb := dTb_of (tI 1628 (by decide +kernel)) rfl
theorem dOi_q9 : Cond.methodLink (dOwn 10) 3 Lib.objectInit ∈ dTb := dTb_of (tI 285 (by decide +kernel)) rfl
theorem dOi_ok : ∀ q ∈ dOi, Cond.methodLink (dOwn q.1) q.2 Lib.objectInit ∈ dTb := List.forall_mem_cons.mpr ⟨dOi_q0, List.forall_mem_cons.mpr ⟨dOi_q1, List.forall_mem_cons.mpr ⟨dOi_q2, List.forall_mem_cons.mpr ⟨dOi_q3, List.forall_mem_cons.mpr ⟨dOi_q4, List.forall_mem_cons.mpr ⟨dOi_q5, List.forall_mem_cons.mpr ⟨dOi_q6, List.forall_mem_cons.mpr ⟨dOi_q7, List.forall_mem_cons.mpr ⟨dOi_q8, List.forall_mem_cons.mpr ⟨dOi_q9, fun _ h => absurd h List.not_mem_nil⟩⟩⟩⟩⟩⟩⟩⟩⟩⟩
theorem oi_inst : Cond.instanceMethod Lib.objectInit ∈ dTb := dTb_of (tI 35 (by decide +kernel)) rfl
theorem oi_code : Cond.code Lib.objectInit ⟨#[0xb1]⟩ 1 none ∈ dTb := dTb_of (tI 36 (by decide +kernel)) rfl
theorem dCi_q0 : Cond.methodLink (dOwn 1) 83 arraycopyName ∈ dTb := dTb_of (tI 742 (by decide +kernel)) rfl
theorem dCi_q1 : Cond.methodLink (dOwn 5) 23 arraycopyName ∈ dTb := dTb_of (tI 784 (by decide +kernel)) rfl
theorem dCi_q2 : Cond.methodLink (dOwn 6) 30 arraycopyName ∈ dTb := dTb_of (tI 779 (by decide +kernel)) rfl
theorem dCi_q3 : Cond.methodLink (dOwn 15) 150 arraycopyName ∈ dTb := dTb_of (tI 1260 (by decide +kernel)) rfl
theorem dCi_ok : ∀ q ∈ dCi, Cond.methodLink (dOwn q.1) q.2 arraycopyName ∈ dTb := List.forall_mem_cons.mpr ⟨dCi_q0, List.forall_mem_cons.mpr ⟨dCi_q1, List.forall_mem_cons.mpr ⟨dCi_q2, List.forall_mem_cons.mpr ⟨dCi_q3, fun _ h => absurd h List.not_mem_nil⟩⟩⟩⟩
theorem ac_nat : Cond.native arraycopyName ∈ dTb := dTb_of (tI 744 (by decide +kernel)) rfl
theorem ac_st : Cond.static arraycopyName ∈ dTb := dTb_of (tI 743 (by decide +kernel)) rfl
theorem ac_in : Cond.initialized "java/lang/System" ∈ dTb := dTb_of (tI 21 (by decide +kernel)) rfl
def dMn (k : Nat) : MethodName := match k with
  | 0 => Lib.Math.min.name
  | 1 => Lib.Math.max.name
  | _ => Lib.Math.abs.name
theorem dCm_q0 : Cond.methodLink (dOwn 1) 179 (dMn 2) ∈ dTb ∧ 2 < 3 := ⟨dTb_of (tI 924 (by decide +kernel)) rfl, by decide⟩
theorem dCm_q1 : Cond.methodLink (dOwn 2) 29 (dMn 0) ∈ dTb ∧ 0 < 3 := ⟨dTb_of (tI 1520 (by decide +kernel)) rfl, by decide⟩
theorem dCm_q2 : Cond.methodLink (dOwn 9) 323 (dMn 2) ∈ dTb ∧ 2 < 3 := ⟨dTb_of (tI 2040 (by decide +kernel)) rfl, by decide⟩
theorem dCm_q3 : Cond.methodLink (dOwn 10) 138 (dMn 0) ∈ dTb ∧ 0 < 3 := ⟨dTb_of (tI 1505 (by decide +kernel)) rfl, by decide⟩
theorem dCm_q4 : Cond.methodLink (dOwn 15) 304 (dMn 0) ∈ dTb ∧ 0 < 3 := ⟨dTb_of (tI 1257 (by decide +kernel)) rfl, by decide⟩
theorem dCm_q5 : Cond.methodLink (dOwn 16) 194 (dMn 1) ∈ dTb ∧ 1 < 3 := ⟨dTb_of (tI 1239 (by decide +kernel)) rfl, by decide⟩
theorem dCm_ok : ∀ q ∈ dCm, Cond.methodLink (dOwn q.1) q.2.1 (dMn q.2.2) ∈ dTb ∧ q.2.2 < 3 := List.forall_mem_cons.mpr ⟨dCm_q0, List.forall_mem_cons.mpr ⟨dCm_q1, List.forall_mem_cons.mpr ⟨dCm_q2, List.forall_mem_cons.mpr ⟨dCm_q3, List.forall_mem_cons.mpr ⟨dCm_q4, List.forall_mem_cons.mpr ⟨dCm_q5, fun _ h => absurd h List.not_mem_nil⟩⟩⟩⟩⟩⟩
theorem mt_in : Cond.initialized "java/lang/Math" ∈ dTb := dTb_of (tI 23 (by decide +kernel)) rfl
theorem mt_st0 : Cond.static (dMn 0) ∈ dTb := dTb_of (tI 1258 (by decide +kernel)) rfl
theorem mt_cd0 : Cond.code Lib.Math.min.name Lib.Math.min.code 2 (some .int) ∈ dTb := dTb_of (tI 1259 (by decide +kernel)) rfl
theorem mt_st1 : Cond.static (dMn 1) ∈ dTb := dTb_of (tI 1240 (by decide +kernel)) rfl
theorem mt_cd1 : Cond.code Lib.Math.max.name Lib.Math.max.code 2 (some .int) ∈ dTb := dTb_of (tI 1241 (by decide +kernel)) rfl
theorem mt_st2 : Cond.static (dMn 2) ∈ dTb := dTb_of (tI 925 (by decide +kernel)) rfl
theorem mt_cd2 : Cond.code Lib.Math.abs.name Lib.Math.abs.code 1 (some .int) ∈ dTb := dTb_of (tI 926 (by decide +kernel)) rfl
end

/-! ===== heavy methods: together ===== -/
theorem okLb_in {j k n l : Nat} (h : ((List.range' k n).all fun l => okOps j (dpc j l) (dcode j l)) = true) (h1 : k ≤ l) (h2 : l < k + n) : okOps j (dpc j l) (dcode j l) = true :=
  List.all_eq_true.mp h l (List.mem_range'_1.mpr ⟨h1, h2⟩)
theorem okH_167_NL : dNL 167 = 32 := by decide +kernel
theorem okM_167 : ((List.range' 167 1).all okM) = true := by
  refine List.all_eq_true.mpr (fun j hj => ?_)
  have hj2 := List.mem_range'_1.mp hj
  obtain rfl : j = 167 := by omega
  refine List.all_eq_true.mpr (fun l hl => ?_)
  have hl' : l < 32 := by rw [← okH_167_NL]; exact List.mem_range.mp hl
  rcases Nat.lt_or_ge l 23 with q | q23
  · exact okLb_in okH_167_0 (Nat.zero_le _) q
  rcases Nat.lt_or_ge l 28 with q | q28
  · exact okLb_in okH_167_23 q23 q
  exact okLb_in okH_167_28 q28 hl'
theorem okH_194_NL : dNL 194 = 52 := by decide +kernel
theorem okM_194 : ((List.range' 194 1).all okM) = true := by
  refine List.all_eq_true.mpr (fun j hj => ?_)
  have hj2 := List.mem_range'_1.mp hj
  obtain rfl : j = 194 := by omega
  refine List.all_eq_true.mpr (fun l hl => ?_)
  have hl' : l < 52 := by rw [← okH_194_NL]; exact List.mem_range.mp hl
  rcases Nat.lt_or_ge l 31 with q | q31
  · exact okLb_in okH_194_0 (Nat.zero_le _) q
  rcases Nat.lt_or_ge l 51 with q | q51
  · exact okLb_in okH_194_31 q31 q
  exact okLb_in okH_194_51 q51 hl'

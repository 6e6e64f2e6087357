/-! ===== the law, by its labels: together ===== -/
theorem okLaw_in {k n l : Nat} (h : ((List.range' k n).all fun l => okOps 365 (dpc 365 l) (dcode 365 l)) = true) (h1 : k ≤ l) (h2 : l < k + n) : okOps 365 (dpc 365 l) (dcode 365 l) = true :=
  List.all_eq_true.mp h l (List.mem_range'_1.mpr ⟨h1, h2⟩)
theorem okLaw_NL : dNL 365 = 196 := by decide +kernel
theorem okM_365 : ((List.range' 365 1).all okM) = true := by
  refine List.all_eq_true.mpr (fun j hj => ?_)
  have hj2 := List.mem_range'_1.mp hj
  obtain rfl : j = 365 := by omega
  refine List.all_eq_true.mpr (fun l hl => ?_)
  have hl' : l < 196 := by rw [← okLaw_NL]; exact List.mem_range.mp hl
  rcases Nat.lt_or_ge l 6 with q | q6
  · exact okLaw_in okLaw_0 (Nat.zero_le _) q
  rcases Nat.lt_or_ge l 12 with q | q12
  · exact okLaw_in okLaw_6 q6 q
  rcases Nat.lt_or_ge l 18 with q | q18
  · exact okLaw_in okLaw_12 q12 q
  rcases Nat.lt_or_ge l 24 with q | q24
  · exact okLaw_in okLaw_18 q18 q
  rcases Nat.lt_or_ge l 30 with q | q30
  · exact okLaw_in okLaw_24 q24 q
  rcases Nat.lt_or_ge l 36 with q | q36
  · exact okLaw_in okLaw_30 q30 q
  rcases Nat.lt_or_ge l 42 with q | q42
  · exact okLaw_in okLaw_36 q36 q
  rcases Nat.lt_or_ge l 48 with q | q48
  · exact okLaw_in okLaw_42 q42 q
  rcases Nat.lt_or_ge l 54 with q | q54
  · exact okLaw_in okLaw_48 q48 q
  rcases Nat.lt_or_ge l 60 with q | q60
  · exact okLaw_in okLaw_54 q54 q
  rcases Nat.lt_or_ge l 66 with q | q66
  · exact okLaw_in okLaw_60 q60 q
  rcases Nat.lt_or_ge l 72 with q | q72
  · exact okLaw_in okLaw_66 q66 q
  rcases Nat.lt_or_ge l 78 with q | q78
  · exact okLaw_in okLaw_72 q72 q
  rcases Nat.lt_or_ge l 84 with q | q84
  · exact okLaw_in okLaw_78 q78 q
  rcases Nat.lt_or_ge l 90 with q | q90
  · exact okLaw_in okLaw_84 q84 q
  rcases Nat.lt_or_ge l 96 with q | q96
  · exact okLaw_in okLaw_90 q90 q
  rcases Nat.lt_or_ge l 102 with q | q102
  · exact okLaw_in okLaw_96 q96 q
  rcases Nat.lt_or_ge l 108 with q | q108
  · exact okLaw_in okLaw_102 q102 q
  rcases Nat.lt_or_ge l 114 with q | q114
  · exact okLaw_in okLaw_108 q108 q
  rcases Nat.lt_or_ge l 120 with q | q120
  · exact okLaw_in okLaw_114 q114 q
  rcases Nat.lt_or_ge l 126 with q | q126
  · exact okLaw_in okLaw_120 q120 q
  rcases Nat.lt_or_ge l 132 with q | q132
  · exact okLaw_in okLaw_126 q126 q
  rcases Nat.lt_or_ge l 138 with q | q138
  · exact okLaw_in okLaw_132 q132 q
  rcases Nat.lt_or_ge l 144 with q | q144
  · exact okLaw_in okLaw_138 q138 q
  rcases Nat.lt_or_ge l 150 with q | q150
  · exact okLaw_in okLaw_144 q144 q
  rcases Nat.lt_or_ge l 156 with q | q156
  · exact okLaw_in okLaw_150 q150 q
  rcases Nat.lt_or_ge l 162 with q | q162
  · exact okLaw_in okLaw_156 q156 q
  rcases Nat.lt_or_ge l 168 with q | q168
  · exact okLaw_in okLaw_162 q162 q
  rcases Nat.lt_or_ge l 174 with q | q174
  · exact okLaw_in okLaw_168 q168 q
  rcases Nat.lt_or_ge l 180 with q | q180
  · exact okLaw_in okLaw_174 q174 q
  rcases Nat.lt_or_ge l 186 with q | q186
  · exact okLaw_in okLaw_180 q180 q
  rcases Nat.lt_or_ge l 192 with q | q192
  · exact okLaw_in okLaw_186 q186 q
  exact okLaw_in okLaw_192 q192 hl'

/-! ===== the law, by its labels: together ===== -/
theorem okLaw_in {k n l : Nat} (h : ((List.range' k n).all fun l => okOps 365 (dpc 365 l) (dcode 365 l)) = true) (h1 : k ≤ l) (h2 : l < k + n) : okOps 365 (dpc 365 l) (dcode 365 l) = true :=
  List.all_eq_true.mp h l (List.mem_range'_1.mpr ⟨h1, h2⟩)
theorem okLaw_NL : dNL 365 = 196 := by decide +kernel
theorem okM_365 : ((List.range' 365 1).all okM) = true := by
  refine List.all_eq_true.mpr (fun j hj => ?_)
  have hj2 := List.mem_range'_1.mp hj
  obtain rfl : j = 365 := by omega
  refine List.all_eq_true.mpr (fun l hl => ?_)
  have hl' : l < 196 := by rw [← okLaw_NL]; exact List.mem_range.mp hl
  rcases Nat.lt_or_ge l 6 with q | q6
  · exact okLaw_in okLaw_0 (Nat.zero_le _) q
  rcases Nat.lt_or_ge l 12 with q | q12
  · exact okLaw_in okLaw_6 q6 q
  rcases Nat.lt_or_ge l 18 with q | q18
  · exact okLaw_in okLaw_12 q12 q
  rcases Nat.lt_or_ge l 24 with q | q24
  · exact okLaw_in okLaw_18 q18 q
  rcases Nat.lt_or_ge l 30 with q | q30
  · exact okLaw_in okLaw_24 q24 q
  rcases Nat.lt_or_ge l 32 with q | q32
  · exact okLaw_in okLaw_30 q30 q
  rcases Nat.lt_or_ge l 34 with q | q34
  · exact okLaw_in okLaw_32 q32 q
  rcases Nat.lt_or_ge l 36 with q | q36
  · exact okLaw_in okLaw_34 q34 q
  rcases Nat.lt_or_ge l 37 with q | q37
  · exact okLaw_in okLaw_36 q36 q
  rcases Nat.lt_or_ge l 39 with q | q39
  · exact okLaw_in okLaw_37 q37 q
  rcases Nat.lt_or_ge l 40 with q | q40
  · exact okLaw_in okLaw_39 q39 q
  rcases Nat.lt_or_ge l 41 with q | q41
  · exact okLaw_in okLaw_40 q40 q
  rcases Nat.lt_or_ge l 42 with q | q42
  · exact okLaw_in okLaw_41 q41 q
  rcases Nat.lt_or_ge l 43 with q | q43
  · exact okLaw_in okLaw_42 q42 q
  rcases Nat.lt_or_ge l 44 with q | q44
  · exact okLaw_in okLaw_43 q43 q
  rcases Nat.lt_or_ge l 46 with q | q46
  · exact okLaw_in okLaw_44 q44 q
  rcases Nat.lt_or_ge l 48 with q | q48
  · exact okLaw_in okLaw_46 q46 q
  rcases Nat.lt_or_ge l 49 with q | q49
  · exact okLaw_in okLaw_48 q48 q
  rcases Nat.lt_or_ge l 51 with q | q51
  · exact okLaw_in okLaw_49 q49 q
  rcases Nat.lt_or_ge l 52 with q | q52
  · exact okLaw_in okLaw_51 q51 q
  rcases Nat.lt_or_ge l 53 with q | q53
  · exact okLaw_in okLaw_52 q52 q
  rcases Nat.lt_or_ge l 54 with q | q54
  · exact okLaw_in okLaw_53 q53 q
  rcases Nat.lt_or_ge l 55 with q | q55
  · exact okLaw_in okLaw_54 q54 q
  rcases Nat.lt_or_ge l 56 with q | q56
  · exact okLaw_in okLaw_55 q55 q
  rcases Nat.lt_or_ge l 57 with q | q57
  · exact okLaw_in okLaw_56 q56 q
  rcases Nat.lt_or_ge l 58 with q | q58
  · exact okLaw_in okLaw_57 q57 q
  rcases Nat.lt_or_ge l 59 with q | q59
  · exact okLaw_in okLaw_58 q58 q
  rcases Nat.lt_or_ge l 60 with q | q60
  · exact okLaw_in okLaw_59 q59 q
  rcases Nat.lt_or_ge l 62 with q | q62
  · exact okLaw_in okLaw_60 q60 q
  rcases Nat.lt_or_ge l 63 with q | q63
  · exact okLaw_in okLaw_62 q62 q
  rcases Nat.lt_or_ge l 64 with q | q64
  · exact okLaw_in okLaw_63 q63 q
  rcases Nat.lt_or_ge l 72 with q | q72
  · exact okLaw_in okLaw_64 q64 q
  rcases Nat.lt_or_ge l 92 with q | q92
  · exact okLaw_in okLaw_72 q72 q
  rcases Nat.lt_or_ge l 106 with q | q106
  · exact okLaw_in okLaw_92 q92 q
  rcases Nat.lt_or_ge l 119 with q | q119
  · exact okLaw_in okLaw_106 q106 q
  rcases Nat.lt_or_ge l 128 with q | q128
  · exact okLaw_in okLaw_119 q119 q
  rcases Nat.lt_or_ge l 136 with q | q136
  · exact okLaw_in okLaw_128 q128 q
  rcases Nat.lt_or_ge l 142 with q | q142
  · exact okLaw_in okLaw_136 q136 q
  rcases Nat.lt_or_ge l 148 with q | q148
  · exact okLaw_in okLaw_142 q142 q
  rcases Nat.lt_or_ge l 154 with q | q154
  · exact okLaw_in okLaw_148 q148 q
  rcases Nat.lt_or_ge l 157 with q | q157
  · exact okLaw_in okLaw_154 q154 q
  rcases Nat.lt_or_ge l 162 with q | q162
  · exact okLaw_in okLaw_157 q157 q
  rcases Nat.lt_or_ge l 167 with q | q167
  · exact okLaw_in okLaw_162 q162 q
  rcases Nat.lt_or_ge l 172 with q | q172
  · exact okLaw_in okLaw_167 q167 q
  rcases Nat.lt_or_ge l 176 with q | q176
  · exact okLaw_in okLaw_172 q172 q
  rcases Nat.lt_or_ge l 182 with q | q182
  · exact okLaw_in okLaw_176 q176 q
  rcases Nat.lt_or_ge l 186 with q | q186
  · exact okLaw_in okLaw_182 q182 q
  rcases Nat.lt_or_ge l 190 with q | q190
  · exact okLaw_in okLaw_186 q186 q
  exact okLaw_in okLaw_190 q190 hl'

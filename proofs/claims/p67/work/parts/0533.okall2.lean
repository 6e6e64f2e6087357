theorem okM_in {k n j : Nat} (h : ((List.range' k n).all okM) = true) (h1 : k ≤ j) (h2 : j < k + n) : okM j = true :=
  List.all_eq_true.mp h j (List.mem_range'_1.mpr ⟨h1, h2⟩)
theorem okM_all (j : Nat) (h : j < dNM) : okM j = true := by
  have h' : j < 406 := h
  rcases Nat.lt_or_ge j 20 with q | q20
  · exact okM_in okM_0 (Nat.zero_le _) q
  rcases Nat.lt_or_ge j 40 with q | q40
  · exact okM_in okM_20 q20 q
  rcases Nat.lt_or_ge j 60 with q | q60
  · exact okM_in okM_40 q40 q
  rcases Nat.lt_or_ge j 80 with q | q80
  · exact okM_in okM_60 q60 q
  rcases Nat.lt_or_ge j 100 with q | q100
  · exact okM_in okM_80 q80 q
  rcases Nat.lt_or_ge j 120 with q | q120
  · exact okM_in okM_100 q100 q
  rcases Nat.lt_or_ge j 140 with q | q140
  · exact okM_in okM_120 q120 q
  rcases Nat.lt_or_ge j 160 with q | q160
  · exact okM_in okM_140 q140 q
  rcases Nat.lt_or_ge j 167 with q | q167
  · exact okM_in okM_160 q160 q
  rcases Nat.lt_or_ge j 168 with q | q168
  · exact okM_in okM_167 q167 q
  rcases Nat.lt_or_ge j 188 with q | q188
  · exact okM_in okM_168 q168 q
  rcases Nat.lt_or_ge j 194 with q | q194
  · exact okM_in okM_188 q188 q
  rcases Nat.lt_or_ge j 195 with q | q195
  · exact okM_in okM_194 q194 q
  rcases Nat.lt_or_ge j 215 with q | q215
  · exact okM_in okM_195 q195 q
  rcases Nat.lt_or_ge j 235 with q | q235
  · exact okM_in okM_215 q215 q
  rcases Nat.lt_or_ge j 255 with q | q255
  · exact okM_in okM_235 q235 q
  rcases Nat.lt_or_ge j 275 with q | q275
  · exact okM_in okM_255 q255 q
  rcases Nat.lt_or_ge j 295 with q | q295
  · exact okM_in okM_275 q275 q
  rcases Nat.lt_or_ge j 315 with q | q315
  · exact okM_in okM_295 q295 q
  rcases Nat.lt_or_ge j 335 with q | q335
  · exact okM_in okM_315 q315 q
  rcases Nat.lt_or_ge j 355 with q | q355
  · exact okM_in okM_335 q335 q
  rcases Nat.lt_or_ge j 375 with q | q375
  · exact okM_in okM_355 q355 q
  rcases Nat.lt_or_ge j 395 with q | q395
  · exact okM_in okM_375 q375 q
  exact okM_in okM_395 q395 h'

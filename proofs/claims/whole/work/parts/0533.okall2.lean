theorem okM_in {k n j : Nat} (h : ((List.range' k n).all okM) = true) (h1 : k ≤ j) (h2 : j < k + n) : okM j = true :=
  List.all_eq_true.mp h j (List.mem_range'_1.mpr ⟨h1, h2⟩)
theorem okM_all (j : Nat) (h : j < dNM) : okM j = true := by
  have h' : j < 391 := h
  rcases Nat.lt_or_ge j 20 with q | q20
  · exact okM_in okM_0 (Nat.zero_le _) q
  rcases Nat.lt_or_ge j 40 with q | q40
  · exact okM_in okM_20 q20 q
  rcases Nat.lt_or_ge j 60 with q | q60
  · exact okM_in okM_40 q40 q
  rcases Nat.lt_or_ge j 80 with q | q80
  · exact okM_in okM_60 q60 q
  rcases Nat.lt_or_ge j 100 with q | q100
  · exact okM_in okM_80 q80 q
  rcases Nat.lt_or_ge j 120 with q | q120
  · exact okM_in okM_100 q100 q
  rcases Nat.lt_or_ge j 140 with q | q140
  · exact okM_in okM_120 q120 q
  rcases Nat.lt_or_ge j 160 with q | q160
  · exact okM_in okM_140 q140 q
  rcases Nat.lt_or_ge j 180 with q | q180
  · exact okM_in okM_160 q160 q
  rcases Nat.lt_or_ge j 200 with q | q200
  · exact okM_in okM_180 q180 q
  rcases Nat.lt_or_ge j 220 with q | q220
  · exact okM_in okM_200 q200 q
  rcases Nat.lt_or_ge j 240 with q | q240
  · exact okM_in okM_220 q220 q
  rcases Nat.lt_or_ge j 260 with q | q260
  · exact okM_in okM_240 q240 q
  rcases Nat.lt_or_ge j 280 with q | q280
  · exact okM_in okM_260 q260 q
  rcases Nat.lt_or_ge j 300 with q | q300
  · exact okM_in okM_280 q280 q
  rcases Nat.lt_or_ge j 320 with q | q320
  · exact okM_in okM_300 q300 q
  rcases Nat.lt_or_ge j 340 with q | q340
  · exact okM_in okM_320 q320 q
  rcases Nat.lt_or_ge j 360 with q | q360
  · exact okM_in okM_340 q340 q
  rcases Nat.lt_or_ge j 365 with q | q365
  · exact okM_in okM_360 q360 q
  rcases Nat.lt_or_ge j 366 with q | q366
  · exact okM_in okM_365 q365 q
  rcases Nat.lt_or_ge j 380 with q | q380
  · exact okM_in okM_366 q366 q
  exact okM_in okM_380 q380 h'

/-! ===== the law's wrappers and labels (printed by wip/whole/wr.py) ===== -/
noncomputable section
def ks1 (a E : Nat) : Nat := if E = a then 1 else 0
def ks2 (a b E : Nat) : Nat := if E = a then 1 else if E = b then 2 else 0
def ks3 (a b c E : Nat) : Nat := if E = a then 1 else if E = b then 2 else if E = c then 3 else 0
theorem ks1_c {a E : Nat} (h : 1 ≤ ks1 a E) : E = a := by
  unfold ks1 at h
  split at h
  · assumption
  · omega
theorem ks2_c {a b E : Nat} (h : 1 ≤ ks2 a b E) : E = a ∨ E = b := by
  unfold ks2 at h
  split at h
  · omega
  · split at h <;> omega
theorem ks3_c {a b c E : Nat} (h : 1 ≤ ks3 a b c E) : E = a ∨ E = b ∨ E = c := by
  unfold ks3 at h
  split at h
  · omega
  · split at h
    · omega
    · split at h <;> omega
theorem kI_h (E : Nat) (m : dMem) (h : Nat → dMem → Option dRes) (k : Int32 → dMem → Option dRes) : kI (some (.inr E, m)) h k = h E m := rfl
theorem kF_h (E : Nat) (m : dMem) (h : Nat → dMem → Option dRes) (k : UInt32 → dMem → Option dRes) : kF (some (.inr E, m)) h k = h E m := rfl
theorem kD_h (E : Nat) (m : dMem) (h : Nat → dMem → Option dRes) (k : UInt64 → dMem → Option dRes) : kD (some (.inr E, m)) h k = h E m := rfl
theorem kF_v (x : UInt32) (m : dMem) (h : Nat → dMem → Option dRes) (k : UInt32 → dMem → Option dRes) : kF (some (.inl (some (.float x)), m)) h k = k x m := rfl
theorem kD_v (x : UInt64) (m : dMem) (h : Nat → dMem → Option dRes) (k : UInt64 → dMem → Option dRes) : kD (some (.inl (some (.double x)), m)) h k = k x m := rfl
theorem lg_e (x : Int64) : lg_cmp x x = Int32.ofNat 0 := by rw [lg_0]
/-- a turn of the law: it comes to label 194 with the relation -/
def TRN (e : dEnv) (x l0 : Nat) (m0 : dMem) (C S0 YB : Nat) (i : Int32) (L : Nat) (m : dMem) : Prop := ∃ m3, RELX x m0 (C + 2) (S0 + 12) (YB + 50) m3 ∧ ∀ t, ∃ u, t ≤ u ∧ runL e (dN e 20) 365 (t + 8) L [some (.ref l0), some (.ref x), some (.ref (x + 261)), some (.ref (x + 269)), some (.ref (x + 270)), some (.int i), none, none, none] [] m = runL e (dN e 20) 365 u 194 [some (.ref l0), some (.ref x), some (.ref (x + 261)), some (.ref (x + 269)), some (.ref (x + 270)), some (.int i), none, none, none] [] m3
section
variable {e : dEnv} {x l0 C S0 YB : Nat} {m0 m m1 m2 : dMem} {i v : Int32}
theorem w306_0 {o : Nat} {y1 : Int32} (h : dN e 19 89 [.ref x, .int y1] m = rI v m1) (hs : sL e m1 1 o (Int32.ofNat 0) v.toInt64 = some m2) : dN e 20 306 [.ref x, .int y1, .ref o] m = rI (Int32.ofNat 0) m2 := by
  show dN e (19 + 1) 306 _ _ = _
  rw [dN_atT (j := 306) (as := [.ref x, .int y1, .ref o]) (m := m) (ls := [some (.ref x), some (.int y1), some (.ref o), none]) rfl rfl rfl rfl, dFu, q306_0, h, kI_r, hs, bd_s, q306_1]
  rfl
theorem w306_e2 {o : Nat} {y1 : Int32} (h : dN e 19 89 [.ref x, .int y1] m = some (.inr 2, m1)) : dN e 20 306 [.ref x, .int y1, .ref o] m = rI (Int32.ofNat 1) m1 := by
  show dN e (19 + 1) 306 _ _ = _
  have hj : ∀ n, hJ (dhd 306) (runL e (dN e 19) 306 (n + 1)) [some (.ref x), some (.int y1), some (.ref o), none] 2 m1 = rI (Int32.ofNat 1) m1 := fun n => rfl
  rw [dN_atT (j := 306) (as := [.ref x, .int y1, .ref o]) (m := m) (ls := [some (.ref x), some (.int y1), some (.ref o), none]) rfl rfl rfl rfl, dFu, q306_0, h, kI_h, hj]
  rfl
theorem w306_e3 {o : Nat} {y1 : Int32} (h : dN e 19 89 [.ref x, .int y1] m = some (.inr 3, m1)) : dN e 20 306 [.ref x, .int y1, .ref o] m = rI (Int32.ofNat 2) m1 := by
  show dN e (19 + 1) 306 _ _ = _
  have hj : ∀ n, hJ (dhd 306) (runL e (dN e 19) 306 (n + 1)) [some (.ref x), some (.int y1), some (.ref o), none] 3 m1 = rI (Int32.ofNat 2) m1 := fun n => rfl
  rw [dN_atT (j := 306) (as := [.ref x, .int y1, .ref o]) (m := m) (ls := [some (.ref x), some (.int y1), some (.ref o), none]) rfl rfl rfl rfl, dFu, q306_0, h, kI_h, hj]
  rfl
theorem w307_0 {o : Nat} (h : dN e 19 93 [.ref x] m = rI v m1) (hs : sL e m1 1 o (Int32.ofNat 0) v.toInt64 = some m2) : dN e 20 307 [.ref x, .ref o] m = rI (Int32.ofNat 0) m2 := by
  show dN e (19 + 1) 307 _ _ = _
  rw [dN_atT (j := 307) (as := [.ref x, .ref o]) (m := m) (ls := [some (.ref x), some (.ref o), none]) rfl rfl rfl rfl, dFu, q307_0, h, kI_r, hs, bd_s, q307_1]
  rfl
theorem w307_e1 {o : Nat} (h : dN e 19 93 [.ref x] m = some (.inr 1, m1)) : dN e 20 307 [.ref x, .ref o] m = rI (Int32.ofNat 1) m1 := by
  show dN e (19 + 1) 307 _ _ = _
  have hj : ∀ n, hJ (dhd 307) (runL e (dN e 19) 307 (n + 1)) [some (.ref x), some (.ref o), none] 1 m1 = rI (Int32.ofNat 1) m1 := fun n => rfl
  rw [dN_atT (j := 307) (as := [.ref x, .ref o]) (m := m) (ls := [some (.ref x), some (.ref o), none]) rfl rfl rfl rfl, dFu, q307_0, h, kI_h, hj]
  rfl
theorem w308_0 {o : Nat} (h : dN e 19 94 [.ref x] m = rI v m1) (hs : sL e m1 1 o (Int32.ofNat 0) v.toInt64 = some m2) : dN e 20 308 [.ref x, .ref o] m = rI (Int32.ofNat 0) m2 := by
  show dN e (19 + 1) 308 _ _ = _
  rw [dN_atT (j := 308) (as := [.ref x, .ref o]) (m := m) (ls := [some (.ref x), some (.ref o), none]) rfl rfl rfl rfl, dFu, q308_0, h, kI_r, hs, bd_s, q308_1]
  rfl
theorem w308_e1 {o : Nat} (h : dN e 19 94 [.ref x] m = some (.inr 1, m1)) : dN e 20 308 [.ref x, .ref o] m = rI (Int32.ofNat 1) m1 := by
  show dN e (19 + 1) 308 _ _ = _
  have hj : ∀ n, hJ (dhd 308) (runL e (dN e 19) 308 (n + 1)) [some (.ref x), some (.ref o), none] 1 m1 = rI (Int32.ofNat 1) m1 := fun n => rfl
  rw [dN_atT (j := 308) (as := [.ref x, .ref o]) (m := m) (ls := [some (.ref x), some (.ref o), none]) rfl rfl rfl rfl, dFu, q308_0, h, kI_h, hj]
  rfl
theorem w309_0 {o : Nat} (h : dN e 19 95 [.ref x] m = rI v m1) (hs : sL e m1 1 o (Int32.ofNat 0) v.toInt64 = some m2) : dN e 20 309 [.ref x, .ref o] m = rI (Int32.ofNat 0) m2 := by
  show dN e (19 + 1) 309 _ _ = _
  rw [dN_atT (j := 309) (as := [.ref x, .ref o]) (m := m) (ls := [some (.ref x), some (.ref o), none]) rfl rfl rfl rfl, dFu, q309_0, h, kI_r, hs, bd_s, q309_1]
  rfl
theorem w309_e1 {o : Nat} (h : dN e 19 95 [.ref x] m = some (.inr 1, m1)) : dN e 20 309 [.ref x, .ref o] m = rI (Int32.ofNat 1) m1 := by
  show dN e (19 + 1) 309 _ _ = _
  have hj : ∀ n, hJ (dhd 309) (runL e (dN e 19) 309 (n + 1)) [some (.ref x), some (.ref o), none] 1 m1 = rI (Int32.ofNat 1) m1 := fun n => rfl
  rw [dN_atT (j := 309) (as := [.ref x, .ref o]) (m := m) (ls := [some (.ref x), some (.ref o), none]) rfl rfl rfl rfl, dFu, q309_0, h, kI_h, hj]
  rfl
theorem w310_0 {o : Nat} (h : dN e 19 96 [.ref x] m = rI v m1) (hs : sL e m1 1 o (Int32.ofNat 0) v.toInt64 = some m2) : dN e 20 310 [.ref x, .ref o] m = rI (Int32.ofNat 0) m2 := by
  show dN e (19 + 1) 310 _ _ = _
  rw [dN_atT (j := 310) (as := [.ref x, .ref o]) (m := m) (ls := [some (.ref x), some (.ref o), none]) rfl rfl rfl rfl, dFu, q310_0, h, kI_r, hs, bd_s, q310_1]
  rfl
theorem w310_e1 {o : Nat} (h : dN e 19 96 [.ref x] m = some (.inr 1, m1)) : dN e 20 310 [.ref x, .ref o] m = rI (Int32.ofNat 1) m1 := by
  show dN e (19 + 1) 310 _ _ = _
  have hj : ∀ n, hJ (dhd 310) (runL e (dN e 19) 310 (n + 1)) [some (.ref x), some (.ref o), none] 1 m1 = rI (Int32.ofNat 1) m1 := fun n => rfl
  rw [dN_atT (j := 310) (as := [.ref x, .ref o]) (m := m) (ls := [some (.ref x), some (.ref o), none]) rfl rfl rfl rfl, dFu, q310_0, h, kI_h, hj]
  rfl
theorem w311_0 {o : Nat} (h : dN e 19 97 [.ref x] m = rI v m1) (hs : sL e m1 1 o (Int32.ofNat 0) v.toInt64 = some m2) : dN e 20 311 [.ref x, .ref o] m = rI (Int32.ofNat 0) m2 := by
  show dN e (19 + 1) 311 _ _ = _
  rw [dN_atT (j := 311) (as := [.ref x, .ref o]) (m := m) (ls := [some (.ref x), some (.ref o), none]) rfl rfl rfl rfl, dFu, q311_0, h, kI_r, hs, bd_s, q311_1]
  rfl
theorem w311_e1 {o : Nat} (h : dN e 19 97 [.ref x] m = some (.inr 1, m1)) : dN e 20 311 [.ref x, .ref o] m = rI (Int32.ofNat 1) m1 := by
  show dN e (19 + 1) 311 _ _ = _
  have hj : ∀ n, hJ (dhd 311) (runL e (dN e 19) 311 (n + 1)) [some (.ref x), some (.ref o), none] 1 m1 = rI (Int32.ofNat 1) m1 := fun n => rfl
  rw [dN_atT (j := 311) (as := [.ref x, .ref o]) (m := m) (ls := [some (.ref x), some (.ref o), none]) rfl rfl rfl rfl, dFu, q311_0, h, kI_h, hj]
  rfl
theorem w312_0 {o : Nat} (h : dN e 19 98 [.ref x] m = rI v m1) (hs : sL e m1 1 o (Int32.ofNat 0) v.toInt64 = some m2) : dN e 20 312 [.ref x, .ref o] m = rI (Int32.ofNat 0) m2 := by
  show dN e (19 + 1) 312 _ _ = _
  rw [dN_atT (j := 312) (as := [.ref x, .ref o]) (m := m) (ls := [some (.ref x), some (.ref o), none]) rfl rfl rfl rfl, dFu, q312_0, h, kI_r, hs, bd_s, q312_1]
  rfl
theorem w312_e1 {o : Nat} (h : dN e 19 98 [.ref x] m = some (.inr 1, m1)) : dN e 20 312 [.ref x, .ref o] m = rI (Int32.ofNat 1) m1 := by
  show dN e (19 + 1) 312 _ _ = _
  have hj : ∀ n, hJ (dhd 312) (runL e (dN e 19) 312 (n + 1)) [some (.ref x), some (.ref o), none] 1 m1 = rI (Int32.ofNat 1) m1 := fun n => rfl
  rw [dN_atT (j := 312) (as := [.ref x, .ref o]) (m := m) (ls := [some (.ref x), some (.ref o), none]) rfl rfl rfl rfl, dFu, q312_0, h, kI_h, hj]
  rfl
theorem w313_0 {o : Nat} (h : dN e 19 99 [.ref x] m = rI v m1) (hs : sL e m1 1 o (Int32.ofNat 0) v.toInt64 = some m2) : dN e 20 313 [.ref x, .ref o] m = rI (Int32.ofNat 0) m2 := by
  show dN e (19 + 1) 313 _ _ = _
  rw [dN_atT (j := 313) (as := [.ref x, .ref o]) (m := m) (ls := [some (.ref x), some (.ref o), none]) rfl rfl rfl rfl, dFu, q313_0, h, kI_r, hs, bd_s, q313_1]
  rfl
theorem w313_e1 {o : Nat} (h : dN e 19 99 [.ref x] m = some (.inr 1, m1)) : dN e 20 313 [.ref x, .ref o] m = rI (Int32.ofNat 1) m1 := by
  show dN e (19 + 1) 313 _ _ = _
  have hj : ∀ n, hJ (dhd 313) (runL e (dN e 19) 313 (n + 1)) [some (.ref x), some (.ref o), none] 1 m1 = rI (Int32.ofNat 1) m1 := fun n => rfl
  rw [dN_atT (j := 313) (as := [.ref x, .ref o]) (m := m) (ls := [some (.ref x), some (.ref o), none]) rfl rfl rfl rfl, dFu, q313_0, h, kI_h, hj]
  rfl
theorem w314_0 {o : Nat} (h : dN e 19 100 [.ref x] m = rI v m1) (hs : sL e m1 1 o (Int32.ofNat 0) v.toInt64 = some m2) : dN e 20 314 [.ref x, .ref o] m = rI (Int32.ofNat 0) m2 := by
  show dN e (19 + 1) 314 _ _ = _
  rw [dN_atT (j := 314) (as := [.ref x, .ref o]) (m := m) (ls := [some (.ref x), some (.ref o), none]) rfl rfl rfl rfl, dFu, q314_0, h, kI_r, hs, bd_s, q314_1]
  rfl
theorem w314_e1 {o : Nat} (h : dN e 19 100 [.ref x] m = some (.inr 1, m1)) : dN e 20 314 [.ref x, .ref o] m = rI (Int32.ofNat 1) m1 := by
  show dN e (19 + 1) 314 _ _ = _
  have hj : ∀ n, hJ (dhd 314) (runL e (dN e 19) 314 (n + 1)) [some (.ref x), some (.ref o), none] 1 m1 = rI (Int32.ofNat 1) m1 := fun n => rfl
  rw [dN_atT (j := 314) (as := [.ref x, .ref o]) (m := m) (ls := [some (.ref x), some (.ref o), none]) rfl rfl rfl rfl, dFu, q314_0, h, kI_h, hj]
  rfl
theorem w315_0 {o : Nat} {y1 y2 : Int32} (h : dN e 19 101 [.ref x, .int y1, .int y2] m = rI v m1) (hs : sL e m1 1 o (Int32.ofNat 0) v.toInt64 = some m2) : dN e 20 315 [.ref x, .int y1, .int y2, .ref o] m = rI (Int32.ofNat 0) m2 := by
  show dN e (19 + 1) 315 _ _ = _
  rw [dN_atT (j := 315) (as := [.ref x, .int y1, .int y2, .ref o]) (m := m) (ls := [some (.ref x), some (.int y1), some (.int y2), some (.ref o), none]) rfl rfl rfl rfl, dFu, q315_0, h, kI_r, hs, bd_s, q315_1]
  rfl
theorem w315_e1 {o : Nat} {y1 y2 : Int32} (h : dN e 19 101 [.ref x, .int y1, .int y2] m = some (.inr 1, m1)) : dN e 20 315 [.ref x, .int y1, .int y2, .ref o] m = rI (Int32.ofNat 1) m1 := by
  show dN e (19 + 1) 315 _ _ = _
  have hj : ∀ n, hJ (dhd 315) (runL e (dN e 19) 315 (n + 1)) [some (.ref x), some (.int y1), some (.int y2), some (.ref o), none] 1 m1 = rI (Int32.ofNat 1) m1 := fun n => rfl
  rw [dN_atT (j := 315) (as := [.ref x, .int y1, .int y2, .ref o]) (m := m) (ls := [some (.ref x), some (.int y1), some (.int y2), some (.ref o), none]) rfl rfl rfl rfl, dFu, q315_0, h, kI_h, hj]
  rfl
theorem w315_e2 {o : Nat} {y1 y2 : Int32} (h : dN e 19 101 [.ref x, .int y1, .int y2] m = some (.inr 2, m1)) : dN e 20 315 [.ref x, .int y1, .int y2, .ref o] m = rI (Int32.ofNat 2) m1 := by
  show dN e (19 + 1) 315 _ _ = _
  have hj : ∀ n, hJ (dhd 315) (runL e (dN e 19) 315 (n + 1)) [some (.ref x), some (.int y1), some (.int y2), some (.ref o), none] 2 m1 = rI (Int32.ofNat 2) m1 := fun n => rfl
  rw [dN_atT (j := 315) (as := [.ref x, .int y1, .int y2, .ref o]) (m := m) (ls := [some (.ref x), some (.int y1), some (.int y2), some (.ref o), none]) rfl rfl rfl rfl, dFu, q315_0, h, kI_h, hj]
  rfl
theorem w316_0 {o : Nat} (h : dN e 19 102 [.ref x] m = rI v m1) (hs : sL e m1 1 o (Int32.ofNat 0) v.toInt64 = some m2) : dN e 20 316 [.ref x, .ref o] m = rI (Int32.ofNat 0) m2 := by
  show dN e (19 + 1) 316 _ _ = _
  rw [dN_atT (j := 316) (as := [.ref x, .ref o]) (m := m) (ls := [some (.ref x), some (.ref o), none]) rfl rfl rfl rfl, dFu, q316_0, h, kI_r, hs, bd_s, q316_1]
  rfl
theorem w316_e1 {o : Nat} (h : dN e 19 102 [.ref x] m = some (.inr 1, m1)) : dN e 20 316 [.ref x, .ref o] m = rI (Int32.ofNat 1) m1 := by
  show dN e (19 + 1) 316 _ _ = _
  have hj : ∀ n, hJ (dhd 316) (runL e (dN e 19) 316 (n + 1)) [some (.ref x), some (.ref o), none] 1 m1 = rI (Int32.ofNat 1) m1 := fun n => rfl
  rw [dN_atT (j := 316) (as := [.ref x, .ref o]) (m := m) (ls := [some (.ref x), some (.ref o), none]) rfl rfl rfl rfl, dFu, q316_0, h, kI_h, hj]
  rfl
theorem w317_0 {o : Nat} (h : dN e 19 103 [.ref x] m = rI v m1) (hs : sL e m1 1 o (Int32.ofNat 0) v.toInt64 = some m2) : dN e 20 317 [.ref x, .ref o] m = rI (Int32.ofNat 0) m2 := by
  show dN e (19 + 1) 317 _ _ = _
  rw [dN_atT (j := 317) (as := [.ref x, .ref o]) (m := m) (ls := [some (.ref x), some (.ref o), none]) rfl rfl rfl rfl, dFu, q317_0, h, kI_r, hs, bd_s, q317_1]
  rfl
theorem w317_e1 {o : Nat} (h : dN e 19 103 [.ref x] m = some (.inr 1, m1)) : dN e 20 317 [.ref x, .ref o] m = rI (Int32.ofNat 1) m1 := by
  show dN e (19 + 1) 317 _ _ = _
  have hj : ∀ n, hJ (dhd 317) (runL e (dN e 19) 317 (n + 1)) [some (.ref x), some (.ref o), none] 1 m1 = rI (Int32.ofNat 1) m1 := fun n => rfl
  rw [dN_atT (j := 317) (as := [.ref x, .ref o]) (m := m) (ls := [some (.ref x), some (.ref o), none]) rfl rfl rfl rfl, dFu, q317_0, h, kI_h, hj]
  rfl
theorem w318_0 {o : Nat} (h : dN e 19 104 [.ref x] m = rI v m1) (hs : sL e m1 1 o (Int32.ofNat 0) v.toInt64 = some m2) : dN e 20 318 [.ref x, .ref o] m = rI (Int32.ofNat 0) m2 := by
  show dN e (19 + 1) 318 _ _ = _
  rw [dN_atT (j := 318) (as := [.ref x, .ref o]) (m := m) (ls := [some (.ref x), some (.ref o), none]) rfl rfl rfl rfl, dFu, q318_0, h, kI_r, hs, bd_s, q318_1]
  rfl
theorem w318_e1 {o : Nat} (h : dN e 19 104 [.ref x] m = some (.inr 1, m1)) : dN e 20 318 [.ref x, .ref o] m = rI (Int32.ofNat 1) m1 := by
  show dN e (19 + 1) 318 _ _ = _
  have hj : ∀ n, hJ (dhd 318) (runL e (dN e 19) 318 (n + 1)) [some (.ref x), some (.ref o), none] 1 m1 = rI (Int32.ofNat 1) m1 := fun n => rfl
  rw [dN_atT (j := 318) (as := [.ref x, .ref o]) (m := m) (ls := [some (.ref x), some (.ref o), none]) rfl rfl rfl rfl, dFu, q318_0, h, kI_h, hj]
  rfl
theorem w319_0 {o : Nat} {y1 y2 : Int32} (h : dN e 19 105 [.ref x, .int y1, .int y2] m = rI v m1) (hs : sL e m1 1 o (Int32.ofNat 0) v.toInt64 = some m2) : dN e 20 319 [.ref x, .int y1, .int y2, .ref o] m = rI (Int32.ofNat 0) m2 := by
  show dN e (19 + 1) 319 _ _ = _
  rw [dN_atT (j := 319) (as := [.ref x, .int y1, .int y2, .ref o]) (m := m) (ls := [some (.ref x), some (.int y1), some (.int y2), some (.ref o), none]) rfl rfl rfl rfl, dFu, q319_0, h, kI_r, hs, bd_s, q319_1]
  rfl
theorem w319_e1 {o : Nat} {y1 y2 : Int32} (h : dN e 19 105 [.ref x, .int y1, .int y2] m = some (.inr 1, m1)) : dN e 20 319 [.ref x, .int y1, .int y2, .ref o] m = rI (Int32.ofNat 1) m1 := by
  show dN e (19 + 1) 319 _ _ = _
  have hj : ∀ n, hJ (dhd 319) (runL e (dN e 19) 319 (n + 1)) [some (.ref x), some (.int y1), some (.int y2), some (.ref o), none] 1 m1 = rI (Int32.ofNat 1) m1 := fun n => rfl
  rw [dN_atT (j := 319) (as := [.ref x, .int y1, .int y2, .ref o]) (m := m) (ls := [some (.ref x), some (.int y1), some (.int y2), some (.ref o), none]) rfl rfl rfl rfl, dFu, q319_0, h, kI_h, hj]
  rfl
theorem w319_e2 {o : Nat} {y1 y2 : Int32} (h : dN e 19 105 [.ref x, .int y1, .int y2] m = some (.inr 2, m1)) : dN e 20 319 [.ref x, .int y1, .int y2, .ref o] m = rI (Int32.ofNat 2) m1 := by
  show dN e (19 + 1) 319 _ _ = _
  have hj : ∀ n, hJ (dhd 319) (runL e (dN e 19) 319 (n + 1)) [some (.ref x), some (.int y1), some (.int y2), some (.ref o), none] 2 m1 = rI (Int32.ofNat 2) m1 := fun n => rfl
  rw [dN_atT (j := 319) (as := [.ref x, .int y1, .int y2, .ref o]) (m := m) (ls := [some (.ref x), some (.int y1), some (.int y2), some (.ref o), none]) rfl rfl rfl rfl, dFu, q319_0, h, kI_h, hj]
  rfl
theorem w320_0 {o : Nat} {y1 : Int32} (h : dN e 19 106 [.ref x, .int y1] m = rI v m1) (hs : sL e m1 1 o (Int32.ofNat 0) v.toInt64 = some m2) : dN e 20 320 [.ref x, .int y1, .ref o] m = rI (Int32.ofNat 0) m2 := by
  show dN e (19 + 1) 320 _ _ = _
  rw [dN_atT (j := 320) (as := [.ref x, .int y1, .ref o]) (m := m) (ls := [some (.ref x), some (.int y1), some (.ref o), none]) rfl rfl rfl rfl, dFu, q320_0, h, kI_r, hs, bd_s, q320_1]
  rfl
theorem w320_e1 {o : Nat} {y1 : Int32} (h : dN e 19 106 [.ref x, .int y1] m = some (.inr 1, m1)) : dN e 20 320 [.ref x, .int y1, .ref o] m = rI (Int32.ofNat 1) m1 := by
  show dN e (19 + 1) 320 _ _ = _
  have hj : ∀ n, hJ (dhd 320) (runL e (dN e 19) 320 (n + 1)) [some (.ref x), some (.int y1), some (.ref o), none] 1 m1 = rI (Int32.ofNat 1) m1 := fun n => rfl
  rw [dN_atT (j := 320) (as := [.ref x, .int y1, .ref o]) (m := m) (ls := [some (.ref x), some (.int y1), some (.ref o), none]) rfl rfl rfl rfl, dFu, q320_0, h, kI_h, hj]
  rfl
theorem w320_e2 {o : Nat} {y1 : Int32} (h : dN e 19 106 [.ref x, .int y1] m = some (.inr 2, m1)) : dN e 20 320 [.ref x, .int y1, .ref o] m = rI (Int32.ofNat 2) m1 := by
  show dN e (19 + 1) 320 _ _ = _
  have hj : ∀ n, hJ (dhd 320) (runL e (dN e 19) 320 (n + 1)) [some (.ref x), some (.int y1), some (.ref o), none] 2 m1 = rI (Int32.ofNat 2) m1 := fun n => rfl
  rw [dN_atT (j := 320) (as := [.ref x, .int y1, .ref o]) (m := m) (ls := [some (.ref x), some (.int y1), some (.ref o), none]) rfl rfl rfl rfl, dFu, q320_0, h, kI_h, hj]
  rfl
theorem w321_0 {o : Nat} {y1 : Int32} (h : dN e 19 107 [.ref x, .int y1] m = rI v m1) (hs : sL e m1 1 o (Int32.ofNat 0) v.toInt64 = some m2) : dN e 20 321 [.ref x, .int y1, .ref o] m = rI (Int32.ofNat 0) m2 := by
  show dN e (19 + 1) 321 _ _ = _
  rw [dN_atT (j := 321) (as := [.ref x, .int y1, .ref o]) (m := m) (ls := [some (.ref x), some (.int y1), some (.ref o), none]) rfl rfl rfl rfl, dFu, q321_0, h, kI_r, hs, bd_s, q321_1]
  rfl
theorem w321_e1 {o : Nat} {y1 : Int32} (h : dN e 19 107 [.ref x, .int y1] m = some (.inr 1, m1)) : dN e 20 321 [.ref x, .int y1, .ref o] m = rI (Int32.ofNat 1) m1 := by
  show dN e (19 + 1) 321 _ _ = _
  have hj : ∀ n, hJ (dhd 321) (runL e (dN e 19) 321 (n + 1)) [some (.ref x), some (.int y1), some (.ref o), none] 1 m1 = rI (Int32.ofNat 1) m1 := fun n => rfl
  rw [dN_atT (j := 321) (as := [.ref x, .int y1, .ref o]) (m := m) (ls := [some (.ref x), some (.int y1), some (.ref o), none]) rfl rfl rfl rfl, dFu, q321_0, h, kI_h, hj]
  rfl
theorem w321_e2 {o : Nat} {y1 : Int32} (h : dN e 19 107 [.ref x, .int y1] m = some (.inr 2, m1)) : dN e 20 321 [.ref x, .int y1, .ref o] m = rI (Int32.ofNat 2) m1 := by
  show dN e (19 + 1) 321 _ _ = _
  have hj : ∀ n, hJ (dhd 321) (runL e (dN e 19) 321 (n + 1)) [some (.ref x), some (.int y1), some (.ref o), none] 2 m1 = rI (Int32.ofNat 2) m1 := fun n => rfl
  rw [dN_atT (j := 321) (as := [.ref x, .int y1, .ref o]) (m := m) (ls := [some (.ref x), some (.int y1), some (.ref o), none]) rfl rfl rfl rfl, dFu, q321_0, h, kI_h, hj]
  rfl
theorem w322_0 {o : Nat} {y1 : Int32} (h : dN e 19 108 [.ref x, .int y1] m = rI v m1) (hs : sL e m1 1 o (Int32.ofNat 0) (if v = Int32.ofNat 0 then 0 else 1) = some m2) : dN e 20 322 [.ref x, .int y1, .ref o] m = rI (Int32.ofNat 0) m2 := by
  show dN e (19 + 1) 322 _ _ = _
  rw [dN_atT (j := 322) (as := [.ref x, .int y1, .ref o]) (m := m) (ls := [some (.ref x), some (.int y1), some (.ref o), none]) rfl rfl rfl rfl, dFu, q322_0, h, kI_r]
  by_cases q : v = Int32.ofNat 0
  · rw [if_pos q] at hs ⊢
    rw [q322_1, q322_2, hs, bd_s, q322_3]
    rfl
  · rw [if_neg q] at hs ⊢
    rw [q322_2, hs, bd_s, q322_3]
    rfl
theorem w322_e1 {o : Nat} {y1 : Int32} (h : dN e 19 108 [.ref x, .int y1] m = some (.inr 1, m1)) : dN e 20 322 [.ref x, .int y1, .ref o] m = rI (Int32.ofNat 1) m1 := by
  show dN e (19 + 1) 322 _ _ = _
  have hj : ∀ n, hJ (dhd 322) (runL e (dN e 19) 322 (n + 1)) [some (.ref x), some (.int y1), some (.ref o), none] 1 m1 = rI (Int32.ofNat 1) m1 := fun n => rfl
  rw [dN_atT (j := 322) (as := [.ref x, .int y1, .ref o]) (m := m) (ls := [some (.ref x), some (.int y1), some (.ref o), none]) rfl rfl rfl rfl, dFu, q322_0, h, kI_h, hj]
  rfl
theorem w322_e2 {o : Nat} {y1 : Int32} (h : dN e 19 108 [.ref x, .int y1] m = some (.inr 2, m1)) : dN e 20 322 [.ref x, .int y1, .ref o] m = rI (Int32.ofNat 2) m1 := by
  show dN e (19 + 1) 322 _ _ = _
  have hj : ∀ n, hJ (dhd 322) (runL e (dN e 19) 322 (n + 1)) [some (.ref x), some (.int y1), some (.ref o), none] 2 m1 = rI (Int32.ofNat 2) m1 := fun n => rfl
  rw [dN_atT (j := 322) (as := [.ref x, .int y1, .ref o]) (m := m) (ls := [some (.ref x), some (.int y1), some (.ref o), none]) rfl rfl rfl rfl, dFu, q322_0, h, kI_h, hj]
  rfl
theorem w323_0 {o : Nat} {y1 : Int32} (h : dN e 19 109 [.ref x, .int y1] m = rI v m1) (hs : sL e m1 1 o (Int32.ofNat 0) v.toInt64 = some m2) : dN e 20 323 [.ref x, .int y1, .ref o] m = rI (Int32.ofNat 0) m2 := by
  show dN e (19 + 1) 323 _ _ = _
  rw [dN_atT (j := 323) (as := [.ref x, .int y1, .ref o]) (m := m) (ls := [some (.ref x), some (.int y1), some (.ref o), none]) rfl rfl rfl rfl, dFu, q323_0, h, kI_r, hs, bd_s, q323_1]
  rfl
theorem w323_e1 {o : Nat} {y1 : Int32} (h : dN e 19 109 [.ref x, .int y1] m = some (.inr 1, m1)) : dN e 20 323 [.ref x, .int y1, .ref o] m = rI (Int32.ofNat 1) m1 := by
  show dN e (19 + 1) 323 _ _ = _
  have hj : ∀ n, hJ (dhd 323) (runL e (dN e 19) 323 (n + 1)) [some (.ref x), some (.int y1), some (.ref o), none] 1 m1 = rI (Int32.ofNat 1) m1 := fun n => rfl
  rw [dN_atT (j := 323) (as := [.ref x, .int y1, .ref o]) (m := m) (ls := [some (.ref x), some (.int y1), some (.ref o), none]) rfl rfl rfl rfl, dFu, q323_0, h, kI_h, hj]
  rfl
theorem w323_e2 {o : Nat} {y1 : Int32} (h : dN e 19 109 [.ref x, .int y1] m = some (.inr 2, m1)) : dN e 20 323 [.ref x, .int y1, .ref o] m = rI (Int32.ofNat 2) m1 := by
  show dN e (19 + 1) 323 _ _ = _
  have hj : ∀ n, hJ (dhd 323) (runL e (dN e 19) 323 (n + 1)) [some (.ref x), some (.int y1), some (.ref o), none] 2 m1 = rI (Int32.ofNat 2) m1 := fun n => rfl
  rw [dN_atT (j := 323) (as := [.ref x, .int y1, .ref o]) (m := m) (ls := [some (.ref x), some (.int y1), some (.ref o), none]) rfl rfl rfl rfl, dFu, q323_0, h, kI_h, hj]
  rfl
theorem w324_0 {o : Nat} {y1 : Int32} (h : dN e 19 110 [.ref x, .int y1] m = rI v m1) (hs : sL e m1 1 o (Int32.ofNat 0) v.toInt64 = some m2) : dN e 20 324 [.ref x, .int y1, .ref o] m = rI (Int32.ofNat 0) m2 := by
  show dN e (19 + 1) 324 _ _ = _
  rw [dN_atT (j := 324) (as := [.ref x, .int y1, .ref o]) (m := m) (ls := [some (.ref x), some (.int y1), some (.ref o), none]) rfl rfl rfl rfl, dFu, q324_0, h, kI_r, hs, bd_s, q324_1]
  rfl
theorem w324_e1 {o : Nat} {y1 : Int32} (h : dN e 19 110 [.ref x, .int y1] m = some (.inr 1, m1)) : dN e 20 324 [.ref x, .int y1, .ref o] m = rI (Int32.ofNat 1) m1 := by
  show dN e (19 + 1) 324 _ _ = _
  have hj : ∀ n, hJ (dhd 324) (runL e (dN e 19) 324 (n + 1)) [some (.ref x), some (.int y1), some (.ref o), none] 1 m1 = rI (Int32.ofNat 1) m1 := fun n => rfl
  rw [dN_atT (j := 324) (as := [.ref x, .int y1, .ref o]) (m := m) (ls := [some (.ref x), some (.int y1), some (.ref o), none]) rfl rfl rfl rfl, dFu, q324_0, h, kI_h, hj]
  rfl
theorem w324_e2 {o : Nat} {y1 : Int32} (h : dN e 19 110 [.ref x, .int y1] m = some (.inr 2, m1)) : dN e 20 324 [.ref x, .int y1, .ref o] m = rI (Int32.ofNat 2) m1 := by
  show dN e (19 + 1) 324 _ _ = _
  have hj : ∀ n, hJ (dhd 324) (runL e (dN e 19) 324 (n + 1)) [some (.ref x), some (.int y1), some (.ref o), none] 2 m1 = rI (Int32.ofNat 2) m1 := fun n => rfl
  rw [dN_atT (j := 324) (as := [.ref x, .int y1, .ref o]) (m := m) (ls := [some (.ref x), some (.int y1), some (.ref o), none]) rfl rfl rfl rfl, dFu, q324_0, h, kI_h, hj]
  rfl
theorem w325_0 {o : Nat} {y1 : Int32} (h : dN e 19 111 [.ref x, .int y1] m = rI v m1) (hs : sL e m1 1 o (Int32.ofNat 0) v.toInt64 = some m2) : dN e 20 325 [.ref x, .int y1, .ref o] m = rI (Int32.ofNat 0) m2 := by
  show dN e (19 + 1) 325 _ _ = _
  rw [dN_atT (j := 325) (as := [.ref x, .int y1, .ref o]) (m := m) (ls := [some (.ref x), some (.int y1), some (.ref o), none]) rfl rfl rfl rfl, dFu, q325_0, h, kI_r, hs, bd_s, q325_1]
  rfl
theorem w325_e1 {o : Nat} {y1 : Int32} (h : dN e 19 111 [.ref x, .int y1] m = some (.inr 1, m1)) : dN e 20 325 [.ref x, .int y1, .ref o] m = rI (Int32.ofNat 1) m1 := by
  show dN e (19 + 1) 325 _ _ = _
  have hj : ∀ n, hJ (dhd 325) (runL e (dN e 19) 325 (n + 1)) [some (.ref x), some (.int y1), some (.ref o), none] 1 m1 = rI (Int32.ofNat 1) m1 := fun n => rfl
  rw [dN_atT (j := 325) (as := [.ref x, .int y1, .ref o]) (m := m) (ls := [some (.ref x), some (.int y1), some (.ref o), none]) rfl rfl rfl rfl, dFu, q325_0, h, kI_h, hj]
  rfl
theorem w325_e2 {o : Nat} {y1 : Int32} (h : dN e 19 111 [.ref x, .int y1] m = some (.inr 2, m1)) : dN e 20 325 [.ref x, .int y1, .ref o] m = rI (Int32.ofNat 2) m1 := by
  show dN e (19 + 1) 325 _ _ = _
  have hj : ∀ n, hJ (dhd 325) (runL e (dN e 19) 325 (n + 1)) [some (.ref x), some (.int y1), some (.ref o), none] 2 m1 = rI (Int32.ofNat 2) m1 := fun n => rfl
  rw [dN_atT (j := 325) (as := [.ref x, .int y1, .ref o]) (m := m) (ls := [some (.ref x), some (.int y1), some (.ref o), none]) rfl rfl rfl rfl, dFu, q325_0, h, kI_h, hj]
  rfl
theorem w326_0 {o : Nat} {y1 : Int32} (h : dN e 19 112 [.ref x, .int y1] m = rI v m1) (hs : sL e m1 1 o (Int32.ofNat 0) v.toInt64 = some m2) : dN e 20 326 [.ref x, .int y1, .ref o] m = rI (Int32.ofNat 0) m2 := by
  show dN e (19 + 1) 326 _ _ = _
  rw [dN_atT (j := 326) (as := [.ref x, .int y1, .ref o]) (m := m) (ls := [some (.ref x), some (.int y1), some (.ref o), none]) rfl rfl rfl rfl, dFu, q326_0, h, kI_r, hs, bd_s, q326_1]
  rfl
theorem w326_e1 {o : Nat} {y1 : Int32} (h : dN e 19 112 [.ref x, .int y1] m = some (.inr 1, m1)) : dN e 20 326 [.ref x, .int y1, .ref o] m = rI (Int32.ofNat 1) m1 := by
  show dN e (19 + 1) 326 _ _ = _
  have hj : ∀ n, hJ (dhd 326) (runL e (dN e 19) 326 (n + 1)) [some (.ref x), some (.int y1), some (.ref o), none] 1 m1 = rI (Int32.ofNat 1) m1 := fun n => rfl
  rw [dN_atT (j := 326) (as := [.ref x, .int y1, .ref o]) (m := m) (ls := [some (.ref x), some (.int y1), some (.ref o), none]) rfl rfl rfl rfl, dFu, q326_0, h, kI_h, hj]
  rfl
theorem w326_e2 {o : Nat} {y1 : Int32} (h : dN e 19 112 [.ref x, .int y1] m = some (.inr 2, m1)) : dN e 20 326 [.ref x, .int y1, .ref o] m = rI (Int32.ofNat 2) m1 := by
  show dN e (19 + 1) 326 _ _ = _
  have hj : ∀ n, hJ (dhd 326) (runL e (dN e 19) 326 (n + 1)) [some (.ref x), some (.int y1), some (.ref o), none] 2 m1 = rI (Int32.ofNat 2) m1 := fun n => rfl
  rw [dN_atT (j := 326) (as := [.ref x, .int y1, .ref o]) (m := m) (ls := [some (.ref x), some (.int y1), some (.ref o), none]) rfl rfl rfl rfl, dFu, q326_0, h, kI_h, hj]
  rfl
theorem w327_0 {o : Nat} {y1 : Int32} (h : dN e 19 113 [.ref x, .int y1] m = rI v m1) (hs : sL e m1 1 o (Int32.ofNat 0) (if v = Int32.ofNat 0 then 0 else 1) = some m2) : dN e 20 327 [.ref x, .int y1, .ref o] m = rI (Int32.ofNat 0) m2 := by
  show dN e (19 + 1) 327 _ _ = _
  rw [dN_atT (j := 327) (as := [.ref x, .int y1, .ref o]) (m := m) (ls := [some (.ref x), some (.int y1), some (.ref o), none]) rfl rfl rfl rfl, dFu, q327_0, h, kI_r]
  by_cases q : v = Int32.ofNat 0
  · rw [if_pos q] at hs ⊢
    rw [q327_1, q327_2, hs, bd_s, q327_3]
    rfl
  · rw [if_neg q] at hs ⊢
    rw [q327_2, hs, bd_s, q327_3]
    rfl
theorem w327_e1 {o : Nat} {y1 : Int32} (h : dN e 19 113 [.ref x, .int y1] m = some (.inr 1, m1)) : dN e 20 327 [.ref x, .int y1, .ref o] m = rI (Int32.ofNat 1) m1 := by
  show dN e (19 + 1) 327 _ _ = _
  have hj : ∀ n, hJ (dhd 327) (runL e (dN e 19) 327 (n + 1)) [some (.ref x), some (.int y1), some (.ref o), none] 1 m1 = rI (Int32.ofNat 1) m1 := fun n => rfl
  rw [dN_atT (j := 327) (as := [.ref x, .int y1, .ref o]) (m := m) (ls := [some (.ref x), some (.int y1), some (.ref o), none]) rfl rfl rfl rfl, dFu, q327_0, h, kI_h, hj]
  rfl
theorem w327_e2 {o : Nat} {y1 : Int32} (h : dN e 19 113 [.ref x, .int y1] m = some (.inr 2, m1)) : dN e 20 327 [.ref x, .int y1, .ref o] m = rI (Int32.ofNat 2) m1 := by
  show dN e (19 + 1) 327 _ _ = _
  have hj : ∀ n, hJ (dhd 327) (runL e (dN e 19) 327 (n + 1)) [some (.ref x), some (.int y1), some (.ref o), none] 2 m1 = rI (Int32.ofNat 2) m1 := fun n => rfl
  rw [dN_atT (j := 327) (as := [.ref x, .int y1, .ref o]) (m := m) (ls := [some (.ref x), some (.int y1), some (.ref o), none]) rfl rfl rfl rfl, dFu, q327_0, h, kI_h, hj]
  rfl
theorem w328_0 {o : Nat} {y1 : Int32} (h : dN e 19 114 [.ref x, .int y1] m = rI v m1) (hs : sL e m1 1 o (Int32.ofNat 0) (if v = Int32.ofNat 0 then 0 else 1) = some m2) : dN e 20 328 [.ref x, .int y1, .ref o] m = rI (Int32.ofNat 0) m2 := by
  show dN e (19 + 1) 328 _ _ = _
  rw [dN_atT (j := 328) (as := [.ref x, .int y1, .ref o]) (m := m) (ls := [some (.ref x), some (.int y1), some (.ref o), none]) rfl rfl rfl rfl, dFu, q328_0, h, kI_r]
  by_cases q : v = Int32.ofNat 0
  · rw [if_pos q] at hs ⊢
    rw [q328_1, q328_2, hs, bd_s, q328_3]
    rfl
  · rw [if_neg q] at hs ⊢
    rw [q328_2, hs, bd_s, q328_3]
    rfl
theorem w328_e1 {o : Nat} {y1 : Int32} (h : dN e 19 114 [.ref x, .int y1] m = some (.inr 1, m1)) : dN e 20 328 [.ref x, .int y1, .ref o] m = rI (Int32.ofNat 1) m1 := by
  show dN e (19 + 1) 328 _ _ = _
  have hj : ∀ n, hJ (dhd 328) (runL e (dN e 19) 328 (n + 1)) [some (.ref x), some (.int y1), some (.ref o), none] 1 m1 = rI (Int32.ofNat 1) m1 := fun n => rfl
  rw [dN_atT (j := 328) (as := [.ref x, .int y1, .ref o]) (m := m) (ls := [some (.ref x), some (.int y1), some (.ref o), none]) rfl rfl rfl rfl, dFu, q328_0, h, kI_h, hj]
  rfl
theorem w328_e2 {o : Nat} {y1 : Int32} (h : dN e 19 114 [.ref x, .int y1] m = some (.inr 2, m1)) : dN e 20 328 [.ref x, .int y1, .ref o] m = rI (Int32.ofNat 2) m1 := by
  show dN e (19 + 1) 328 _ _ = _
  have hj : ∀ n, hJ (dhd 328) (runL e (dN e 19) 328 (n + 1)) [some (.ref x), some (.int y1), some (.ref o), none] 2 m1 = rI (Int32.ofNat 2) m1 := fun n => rfl
  rw [dN_atT (j := 328) (as := [.ref x, .int y1, .ref o]) (m := m) (ls := [some (.ref x), some (.int y1), some (.ref o), none]) rfl rfl rfl rfl, dFu, q328_0, h, kI_h, hj]
  rfl
theorem w329_0 {o : Nat} {y1 : Int32} (h : dN e 19 115 [.ref x, .int y1] m = rI v m1) (hs : sL e m1 1 o (Int32.ofNat 0) v.toInt64 = some m2) : dN e 20 329 [.ref x, .int y1, .ref o] m = rI (Int32.ofNat 0) m2 := by
  show dN e (19 + 1) 329 _ _ = _
  rw [dN_atT (j := 329) (as := [.ref x, .int y1, .ref o]) (m := m) (ls := [some (.ref x), some (.int y1), some (.ref o), none]) rfl rfl rfl rfl, dFu, q329_0, h, kI_r, hs, bd_s, q329_1]
  rfl
theorem w329_e1 {o : Nat} {y1 : Int32} (h : dN e 19 115 [.ref x, .int y1] m = some (.inr 1, m1)) : dN e 20 329 [.ref x, .int y1, .ref o] m = rI (Int32.ofNat 1) m1 := by
  show dN e (19 + 1) 329 _ _ = _
  have hj : ∀ n, hJ (dhd 329) (runL e (dN e 19) 329 (n + 1)) [some (.ref x), some (.int y1), some (.ref o), none] 1 m1 = rI (Int32.ofNat 1) m1 := fun n => rfl
  rw [dN_atT (j := 329) (as := [.ref x, .int y1, .ref o]) (m := m) (ls := [some (.ref x), some (.int y1), some (.ref o), none]) rfl rfl rfl rfl, dFu, q329_0, h, kI_h, hj]
  rfl
theorem w329_e2 {o : Nat} {y1 : Int32} (h : dN e 19 115 [.ref x, .int y1] m = some (.inr 2, m1)) : dN e 20 329 [.ref x, .int y1, .ref o] m = rI (Int32.ofNat 2) m1 := by
  show dN e (19 + 1) 329 _ _ = _
  have hj : ∀ n, hJ (dhd 329) (runL e (dN e 19) 329 (n + 1)) [some (.ref x), some (.int y1), some (.ref o), none] 2 m1 = rI (Int32.ofNat 2) m1 := fun n => rfl
  rw [dN_atT (j := 329) (as := [.ref x, .int y1, .ref o]) (m := m) (ls := [some (.ref x), some (.int y1), some (.ref o), none]) rfl rfl rfl rfl, dFu, q329_0, h, kI_h, hj]
  rfl
theorem w330_0 {o : Nat} {y1 : Int32} (h : dN e 19 116 [.ref x, .int y1] m = rI v m1) (hs : sL e m1 1 o (Int32.ofNat 0) v.toInt64 = some m2) : dN e 20 330 [.ref x, .int y1, .ref o] m = rI (Int32.ofNat 0) m2 := by
  show dN e (19 + 1) 330 _ _ = _
  rw [dN_atT (j := 330) (as := [.ref x, .int y1, .ref o]) (m := m) (ls := [some (.ref x), some (.int y1), some (.ref o), none]) rfl rfl rfl rfl, dFu, q330_0, h, kI_r, hs, bd_s, q330_1]
  rfl
theorem w330_e1 {o : Nat} {y1 : Int32} (h : dN e 19 116 [.ref x, .int y1] m = some (.inr 1, m1)) : dN e 20 330 [.ref x, .int y1, .ref o] m = rI (Int32.ofNat 1) m1 := by
  show dN e (19 + 1) 330 _ _ = _
  have hj : ∀ n, hJ (dhd 330) (runL e (dN e 19) 330 (n + 1)) [some (.ref x), some (.int y1), some (.ref o), none] 1 m1 = rI (Int32.ofNat 1) m1 := fun n => rfl
  rw [dN_atT (j := 330) (as := [.ref x, .int y1, .ref o]) (m := m) (ls := [some (.ref x), some (.int y1), some (.ref o), none]) rfl rfl rfl rfl, dFu, q330_0, h, kI_h, hj]
  rfl
theorem w330_e2 {o : Nat} {y1 : Int32} (h : dN e 19 116 [.ref x, .int y1] m = some (.inr 2, m1)) : dN e 20 330 [.ref x, .int y1, .ref o] m = rI (Int32.ofNat 2) m1 := by
  show dN e (19 + 1) 330 _ _ = _
  have hj : ∀ n, hJ (dhd 330) (runL e (dN e 19) 330 (n + 1)) [some (.ref x), some (.int y1), some (.ref o), none] 2 m1 = rI (Int32.ofNat 2) m1 := fun n => rfl
  rw [dN_atT (j := 330) (as := [.ref x, .int y1, .ref o]) (m := m) (ls := [some (.ref x), some (.int y1), some (.ref o), none]) rfl rfl rfl rfl, dFu, q330_0, h, kI_h, hj]
  rfl
theorem w331_0 {o : Nat} {y1 : Int32} (h : dN e 19 117 [.ref x, .int y1] m = rI v m1) (hs : sL e m1 1 o (Int32.ofNat 0) v.toInt64 = some m2) : dN e 20 331 [.ref x, .int y1, .ref o] m = rI (Int32.ofNat 0) m2 := by
  show dN e (19 + 1) 331 _ _ = _
  rw [dN_atT (j := 331) (as := [.ref x, .int y1, .ref o]) (m := m) (ls := [some (.ref x), some (.int y1), some (.ref o), none]) rfl rfl rfl rfl, dFu, q331_0, h, kI_r, hs, bd_s, q331_1]
  rfl
theorem w331_e1 {o : Nat} {y1 : Int32} (h : dN e 19 117 [.ref x, .int y1] m = some (.inr 1, m1)) : dN e 20 331 [.ref x, .int y1, .ref o] m = rI (Int32.ofNat 1) m1 := by
  show dN e (19 + 1) 331 _ _ = _
  have hj : ∀ n, hJ (dhd 331) (runL e (dN e 19) 331 (n + 1)) [some (.ref x), some (.int y1), some (.ref o), none] 1 m1 = rI (Int32.ofNat 1) m1 := fun n => rfl
  rw [dN_atT (j := 331) (as := [.ref x, .int y1, .ref o]) (m := m) (ls := [some (.ref x), some (.int y1), some (.ref o), none]) rfl rfl rfl rfl, dFu, q331_0, h, kI_h, hj]
  rfl
theorem w331_e2 {o : Nat} {y1 : Int32} (h : dN e 19 117 [.ref x, .int y1] m = some (.inr 2, m1)) : dN e 20 331 [.ref x, .int y1, .ref o] m = rI (Int32.ofNat 2) m1 := by
  show dN e (19 + 1) 331 _ _ = _
  have hj : ∀ n, hJ (dhd 331) (runL e (dN e 19) 331 (n + 1)) [some (.ref x), some (.int y1), some (.ref o), none] 2 m1 = rI (Int32.ofNat 2) m1 := fun n => rfl
  rw [dN_atT (j := 331) (as := [.ref x, .int y1, .ref o]) (m := m) (ls := [some (.ref x), some (.int y1), some (.ref o), none]) rfl rfl rfl rfl, dFu, q331_0, h, kI_h, hj]
  rfl
theorem w332_0 {o : Nat} {y1 : Int32} (h : dN e 19 118 [.ref x, .int y1] m = rI v m1) (hs : sL e m1 1 o (Int32.ofNat 0) v.toInt64 = some m2) : dN e 20 332 [.ref x, .int y1, .ref o] m = rI (Int32.ofNat 0) m2 := by
  show dN e (19 + 1) 332 _ _ = _
  rw [dN_atT (j := 332) (as := [.ref x, .int y1, .ref o]) (m := m) (ls := [some (.ref x), some (.int y1), some (.ref o), none]) rfl rfl rfl rfl, dFu, q332_0, h, kI_r, hs, bd_s, q332_1]
  rfl
theorem w332_e1 {o : Nat} {y1 : Int32} (h : dN e 19 118 [.ref x, .int y1] m = some (.inr 1, m1)) : dN e 20 332 [.ref x, .int y1, .ref o] m = rI (Int32.ofNat 1) m1 := by
  show dN e (19 + 1) 332 _ _ = _
  have hj : ∀ n, hJ (dhd 332) (runL e (dN e 19) 332 (n + 1)) [some (.ref x), some (.int y1), some (.ref o), none] 1 m1 = rI (Int32.ofNat 1) m1 := fun n => rfl
  rw [dN_atT (j := 332) (as := [.ref x, .int y1, .ref o]) (m := m) (ls := [some (.ref x), some (.int y1), some (.ref o), none]) rfl rfl rfl rfl, dFu, q332_0, h, kI_h, hj]
  rfl
theorem w332_e2 {o : Nat} {y1 : Int32} (h : dN e 19 118 [.ref x, .int y1] m = some (.inr 2, m1)) : dN e 20 332 [.ref x, .int y1, .ref o] m = rI (Int32.ofNat 2) m1 := by
  show dN e (19 + 1) 332 _ _ = _
  have hj : ∀ n, hJ (dhd 332) (runL e (dN e 19) 332 (n + 1)) [some (.ref x), some (.int y1), some (.ref o), none] 2 m1 = rI (Int32.ofNat 2) m1 := fun n => rfl
  rw [dN_atT (j := 332) (as := [.ref x, .int y1, .ref o]) (m := m) (ls := [some (.ref x), some (.int y1), some (.ref o), none]) rfl rfl rfl rfl, dFu, q332_0, h, kI_h, hj]
  rfl
theorem w333_0 {o : Nat} {y1 : Int32} (h : dN e 19 119 [.ref x, .int y1] m = rI v m1) (hs : sL e m1 1 o (Int32.ofNat 0) v.toInt64 = some m2) : dN e 20 333 [.ref x, .int y1, .ref o] m = rI (Int32.ofNat 0) m2 := by
  show dN e (19 + 1) 333 _ _ = _
  rw [dN_atT (j := 333) (as := [.ref x, .int y1, .ref o]) (m := m) (ls := [some (.ref x), some (.int y1), some (.ref o), none]) rfl rfl rfl rfl, dFu, q333_0, h, kI_r, hs, bd_s, q333_1]
  rfl
theorem w333_e1 {o : Nat} {y1 : Int32} (h : dN e 19 119 [.ref x, .int y1] m = some (.inr 1, m1)) : dN e 20 333 [.ref x, .int y1, .ref o] m = rI (Int32.ofNat 1) m1 := by
  show dN e (19 + 1) 333 _ _ = _
  have hj : ∀ n, hJ (dhd 333) (runL e (dN e 19) 333 (n + 1)) [some (.ref x), some (.int y1), some (.ref o), none] 1 m1 = rI (Int32.ofNat 1) m1 := fun n => rfl
  rw [dN_atT (j := 333) (as := [.ref x, .int y1, .ref o]) (m := m) (ls := [some (.ref x), some (.int y1), some (.ref o), none]) rfl rfl rfl rfl, dFu, q333_0, h, kI_h, hj]
  rfl
theorem w333_e2 {o : Nat} {y1 : Int32} (h : dN e 19 119 [.ref x, .int y1] m = some (.inr 2, m1)) : dN e 20 333 [.ref x, .int y1, .ref o] m = rI (Int32.ofNat 2) m1 := by
  show dN e (19 + 1) 333 _ _ = _
  have hj : ∀ n, hJ (dhd 333) (runL e (dN e 19) 333 (n + 1)) [some (.ref x), some (.int y1), some (.ref o), none] 2 m1 = rI (Int32.ofNat 2) m1 := fun n => rfl
  rw [dN_atT (j := 333) (as := [.ref x, .int y1, .ref o]) (m := m) (ls := [some (.ref x), some (.int y1), some (.ref o), none]) rfl rfl rfl rfl, dFu, q333_0, h, kI_h, hj]
  rfl
theorem w334_0 {o : Nat} {y1 : Int32} (h : dN e 19 120 [.ref x, .int y1] m = rI v m1) (hs : sL e m1 1 o (Int32.ofNat 0) v.toInt64 = some m2) : dN e 20 334 [.ref x, .int y1, .ref o] m = rI (Int32.ofNat 0) m2 := by
  show dN e (19 + 1) 334 _ _ = _
  rw [dN_atT (j := 334) (as := [.ref x, .int y1, .ref o]) (m := m) (ls := [some (.ref x), some (.int y1), some (.ref o), none]) rfl rfl rfl rfl, dFu, q334_0, h, kI_r, hs, bd_s, q334_1]
  rfl
theorem w334_e1 {o : Nat} {y1 : Int32} (h : dN e 19 120 [.ref x, .int y1] m = some (.inr 1, m1)) : dN e 20 334 [.ref x, .int y1, .ref o] m = rI (Int32.ofNat 1) m1 := by
  show dN e (19 + 1) 334 _ _ = _
  have hj : ∀ n, hJ (dhd 334) (runL e (dN e 19) 334 (n + 1)) [some (.ref x), some (.int y1), some (.ref o), none] 1 m1 = rI (Int32.ofNat 1) m1 := fun n => rfl
  rw [dN_atT (j := 334) (as := [.ref x, .int y1, .ref o]) (m := m) (ls := [some (.ref x), some (.int y1), some (.ref o), none]) rfl rfl rfl rfl, dFu, q334_0, h, kI_h, hj]
  rfl
theorem w334_e2 {o : Nat} {y1 : Int32} (h : dN e 19 120 [.ref x, .int y1] m = some (.inr 2, m1)) : dN e 20 334 [.ref x, .int y1, .ref o] m = rI (Int32.ofNat 2) m1 := by
  show dN e (19 + 1) 334 _ _ = _
  have hj : ∀ n, hJ (dhd 334) (runL e (dN e 19) 334 (n + 1)) [some (.ref x), some (.int y1), some (.ref o), none] 2 m1 = rI (Int32.ofNat 2) m1 := fun n => rfl
  rw [dN_atT (j := 334) (as := [.ref x, .int y1, .ref o]) (m := m) (ls := [some (.ref x), some (.int y1), some (.ref o), none]) rfl rfl rfl rfl, dFu, q334_0, h, kI_h, hj]
  rfl
theorem w335_0 {o : Nat} (h : dN e 19 121 [.ref x] m = rI v m1) (hs : sL e m1 1 o (Int32.ofNat 0) v.toInt64 = some m2) : dN e 20 335 [.ref x, .ref o] m = rI (Int32.ofNat 0) m2 := by
  show dN e (19 + 1) 335 _ _ = _
  rw [dN_atT (j := 335) (as := [.ref x, .ref o]) (m := m) (ls := [some (.ref x), some (.ref o), none]) rfl rfl rfl rfl, dFu, q335_0, h, kI_r, hs, bd_s, q335_1]
  rfl
theorem w335_e1 {o : Nat} (h : dN e 19 121 [.ref x] m = some (.inr 1, m1)) : dN e 20 335 [.ref x, .ref o] m = rI (Int32.ofNat 1) m1 := by
  show dN e (19 + 1) 335 _ _ = _
  have hj : ∀ n, hJ (dhd 335) (runL e (dN e 19) 335 (n + 1)) [some (.ref x), some (.ref o), none] 1 m1 = rI (Int32.ofNat 1) m1 := fun n => rfl
  rw [dN_atT (j := 335) (as := [.ref x, .ref o]) (m := m) (ls := [some (.ref x), some (.ref o), none]) rfl rfl rfl rfl, dFu, q335_0, h, kI_h, hj]
  rfl
theorem w336_0 {o : Nat} {y1 : Int32} (h : dN e 19 122 [.ref x, .int y1] m = rI v m1) (hs : sL e m1 1 o (Int32.ofNat 0) v.toInt64 = some m2) : dN e 20 336 [.ref x, .int y1, .ref o] m = rI (Int32.ofNat 0) m2 := by
  show dN e (19 + 1) 336 _ _ = _
  rw [dN_atT (j := 336) (as := [.ref x, .int y1, .ref o]) (m := m) (ls := [some (.ref x), some (.int y1), some (.ref o), none]) rfl rfl rfl rfl, dFu, q336_0, h, kI_r, hs, bd_s, q336_1]
  rfl
theorem w336_e1 {o : Nat} {y1 : Int32} (h : dN e 19 122 [.ref x, .int y1] m = some (.inr 1, m1)) : dN e 20 336 [.ref x, .int y1, .ref o] m = rI (Int32.ofNat 1) m1 := by
  show dN e (19 + 1) 336 _ _ = _
  have hj : ∀ n, hJ (dhd 336) (runL e (dN e 19) 336 (n + 1)) [some (.ref x), some (.int y1), some (.ref o), none] 1 m1 = rI (Int32.ofNat 1) m1 := fun n => rfl
  rw [dN_atT (j := 336) (as := [.ref x, .int y1, .ref o]) (m := m) (ls := [some (.ref x), some (.int y1), some (.ref o), none]) rfl rfl rfl rfl, dFu, q336_0, h, kI_h, hj]
  rfl
theorem w336_e2 {o : Nat} {y1 : Int32} (h : dN e 19 122 [.ref x, .int y1] m = some (.inr 2, m1)) : dN e 20 336 [.ref x, .int y1, .ref o] m = rI (Int32.ofNat 2) m1 := by
  show dN e (19 + 1) 336 _ _ = _
  have hj : ∀ n, hJ (dhd 336) (runL e (dN e 19) 336 (n + 1)) [some (.ref x), some (.int y1), some (.ref o), none] 2 m1 = rI (Int32.ofNat 2) m1 := fun n => rfl
  rw [dN_atT (j := 336) (as := [.ref x, .int y1, .ref o]) (m := m) (ls := [some (.ref x), some (.int y1), some (.ref o), none]) rfl rfl rfl rfl, dFu, q336_0, h, kI_h, hj]
  rfl
theorem w337_0 {o : Nat} {y1 y2 : Int32} (h : dN e 19 123 [.ref x, .int y1, .int y2] m = rI v m1) (hs : sL e m1 1 o (Int32.ofNat 0) v.toInt64 = some m2) : dN e 20 337 [.ref x, .int y1, .int y2, .ref o] m = rI (Int32.ofNat 0) m2 := by
  show dN e (19 + 1) 337 _ _ = _
  rw [dN_atT (j := 337) (as := [.ref x, .int y1, .int y2, .ref o]) (m := m) (ls := [some (.ref x), some (.int y1), some (.int y2), some (.ref o), none]) rfl rfl rfl rfl, dFu, q337_0, h, kI_r, hs, bd_s, q337_1]
  rfl
theorem w337_e1 {o : Nat} {y1 y2 : Int32} (h : dN e 19 123 [.ref x, .int y1, .int y2] m = some (.inr 1, m1)) : dN e 20 337 [.ref x, .int y1, .int y2, .ref o] m = rI (Int32.ofNat 1) m1 := by
  show dN e (19 + 1) 337 _ _ = _
  have hj : ∀ n, hJ (dhd 337) (runL e (dN e 19) 337 (n + 1)) [some (.ref x), some (.int y1), some (.int y2), some (.ref o), none] 1 m1 = rI (Int32.ofNat 1) m1 := fun n => rfl
  rw [dN_atT (j := 337) (as := [.ref x, .int y1, .int y2, .ref o]) (m := m) (ls := [some (.ref x), some (.int y1), some (.int y2), some (.ref o), none]) rfl rfl rfl rfl, dFu, q337_0, h, kI_h, hj]
  rfl
theorem w337_e2 {o : Nat} {y1 y2 : Int32} (h : dN e 19 123 [.ref x, .int y1, .int y2] m = some (.inr 2, m1)) : dN e 20 337 [.ref x, .int y1, .int y2, .ref o] m = rI (Int32.ofNat 2) m1 := by
  show dN e (19 + 1) 337 _ _ = _
  have hj : ∀ n, hJ (dhd 337) (runL e (dN e 19) 337 (n + 1)) [some (.ref x), some (.int y1), some (.int y2), some (.ref o), none] 2 m1 = rI (Int32.ofNat 2) m1 := fun n => rfl
  rw [dN_atT (j := 337) (as := [.ref x, .int y1, .int y2, .ref o]) (m := m) (ls := [some (.ref x), some (.int y1), some (.int y2), some (.ref o), none]) rfl rfl rfl rfl, dFu, q337_0, h, kI_h, hj]
  rfl
theorem w338_0 {o : Nat} {y1 : Int32} (h : dN e 19 124 [.ref x, .int y1] m = rI v m1) (hs : sL e m1 1 o (Int32.ofNat 0) v.toInt64 = some m2) : dN e 20 338 [.ref x, .int y1, .ref o] m = rI (Int32.ofNat 0) m2 := by
  show dN e (19 + 1) 338 _ _ = _
  rw [dN_atT (j := 338) (as := [.ref x, .int y1, .ref o]) (m := m) (ls := [some (.ref x), some (.int y1), some (.ref o), none]) rfl rfl rfl rfl, dFu, q338_0, h, kI_r, hs, bd_s, q338_1]
  rfl
theorem w338_e1 {o : Nat} {y1 : Int32} (h : dN e 19 124 [.ref x, .int y1] m = some (.inr 1, m1)) : dN e 20 338 [.ref x, .int y1, .ref o] m = rI (Int32.ofNat 1) m1 := by
  show dN e (19 + 1) 338 _ _ = _
  have hj : ∀ n, hJ (dhd 338) (runL e (dN e 19) 338 (n + 1)) [some (.ref x), some (.int y1), some (.ref o), none] 1 m1 = rI (Int32.ofNat 1) m1 := fun n => rfl
  rw [dN_atT (j := 338) (as := [.ref x, .int y1, .ref o]) (m := m) (ls := [some (.ref x), some (.int y1), some (.ref o), none]) rfl rfl rfl rfl, dFu, q338_0, h, kI_h, hj]
  rfl
theorem w338_e2 {o : Nat} {y1 : Int32} (h : dN e 19 124 [.ref x, .int y1] m = some (.inr 2, m1)) : dN e 20 338 [.ref x, .int y1, .ref o] m = rI (Int32.ofNat 2) m1 := by
  show dN e (19 + 1) 338 _ _ = _
  have hj : ∀ n, hJ (dhd 338) (runL e (dN e 19) 338 (n + 1)) [some (.ref x), some (.int y1), some (.ref o), none] 2 m1 = rI (Int32.ofNat 2) m1 := fun n => rfl
  rw [dN_atT (j := 338) (as := [.ref x, .int y1, .ref o]) (m := m) (ls := [some (.ref x), some (.int y1), some (.ref o), none]) rfl rfl rfl rfl, dFu, q338_0, h, kI_h, hj]
  rfl
theorem w339_0 {o : Nat} {y1 : Int32} (h : dN e 19 125 [.ref x, .int y1] m = rI v m1) (hs : sL e m1 1 o (Int32.ofNat 0) v.toInt64 = some m2) : dN e 20 339 [.ref x, .int y1, .ref o] m = rI (Int32.ofNat 0) m2 := by
  show dN e (19 + 1) 339 _ _ = _
  rw [dN_atT (j := 339) (as := [.ref x, .int y1, .ref o]) (m := m) (ls := [some (.ref x), some (.int y1), some (.ref o), none]) rfl rfl rfl rfl, dFu, q339_0, h, kI_r, hs, bd_s, q339_1]
  rfl
theorem w339_e1 {o : Nat} {y1 : Int32} (h : dN e 19 125 [.ref x, .int y1] m = some (.inr 1, m1)) : dN e 20 339 [.ref x, .int y1, .ref o] m = rI (Int32.ofNat 1) m1 := by
  show dN e (19 + 1) 339 _ _ = _
  have hj : ∀ n, hJ (dhd 339) (runL e (dN e 19) 339 (n + 1)) [some (.ref x), some (.int y1), some (.ref o), none] 1 m1 = rI (Int32.ofNat 1) m1 := fun n => rfl
  rw [dN_atT (j := 339) (as := [.ref x, .int y1, .ref o]) (m := m) (ls := [some (.ref x), some (.int y1), some (.ref o), none]) rfl rfl rfl rfl, dFu, q339_0, h, kI_h, hj]
  rfl
theorem w339_e2 {o : Nat} {y1 : Int32} (h : dN e 19 125 [.ref x, .int y1] m = some (.inr 2, m1)) : dN e 20 339 [.ref x, .int y1, .ref o] m = rI (Int32.ofNat 2) m1 := by
  show dN e (19 + 1) 339 _ _ = _
  have hj : ∀ n, hJ (dhd 339) (runL e (dN e 19) 339 (n + 1)) [some (.ref x), some (.int y1), some (.ref o), none] 2 m1 = rI (Int32.ofNat 2) m1 := fun n => rfl
  rw [dN_atT (j := 339) (as := [.ref x, .int y1, .ref o]) (m := m) (ls := [some (.ref x), some (.int y1), some (.ref o), none]) rfl rfl rfl rfl, dFu, q339_0, h, kI_h, hj]
  rfl
theorem w340_0 {o : Nat} {y1 y2 : Int32} (h : dN e 19 126 [.ref x, .int y1, .int y2] m = rI v m1) (hs : sL e m1 1 o (Int32.ofNat 0) v.toInt64 = some m2) : dN e 20 340 [.ref x, .int y1, .int y2, .ref o] m = rI (Int32.ofNat 0) m2 := by
  show dN e (19 + 1) 340 _ _ = _
  rw [dN_atT (j := 340) (as := [.ref x, .int y1, .int y2, .ref o]) (m := m) (ls := [some (.ref x), some (.int y1), some (.int y2), some (.ref o), none]) rfl rfl rfl rfl, dFu, q340_0, h, kI_r, hs, bd_s, q340_1]
  rfl
theorem w340_e1 {o : Nat} {y1 y2 : Int32} (h : dN e 19 126 [.ref x, .int y1, .int y2] m = some (.inr 1, m1)) : dN e 20 340 [.ref x, .int y1, .int y2, .ref o] m = rI (Int32.ofNat 1) m1 := by
  show dN e (19 + 1) 340 _ _ = _
  have hj : ∀ n, hJ (dhd 340) (runL e (dN e 19) 340 (n + 1)) [some (.ref x), some (.int y1), some (.int y2), some (.ref o), none] 1 m1 = rI (Int32.ofNat 1) m1 := fun n => rfl
  rw [dN_atT (j := 340) (as := [.ref x, .int y1, .int y2, .ref o]) (m := m) (ls := [some (.ref x), some (.int y1), some (.int y2), some (.ref o), none]) rfl rfl rfl rfl, dFu, q340_0, h, kI_h, hj]
  rfl
theorem w340_e2 {o : Nat} {y1 y2 : Int32} (h : dN e 19 126 [.ref x, .int y1, .int y2] m = some (.inr 2, m1)) : dN e 20 340 [.ref x, .int y1, .int y2, .ref o] m = rI (Int32.ofNat 2) m1 := by
  show dN e (19 + 1) 340 _ _ = _
  have hj : ∀ n, hJ (dhd 340) (runL e (dN e 19) 340 (n + 1)) [some (.ref x), some (.int y1), some (.int y2), some (.ref o), none] 2 m1 = rI (Int32.ofNat 2) m1 := fun n => rfl
  rw [dN_atT (j := 340) (as := [.ref x, .int y1, .int y2, .ref o]) (m := m) (ls := [some (.ref x), some (.int y1), some (.int y2), some (.ref o), none]) rfl rfl rfl rfl, dFu, q340_0, h, kI_h, hj]
  rfl
theorem w341_0 {o : Nat} {y1 : Int32} (h : dN e 19 127 [.ref x, .int y1] m = rI v m1) (hs : sL e m1 1 o (Int32.ofNat 0) v.toInt64 = some m2) : dN e 20 341 [.ref x, .int y1, .ref o] m = rI (Int32.ofNat 0) m2 := by
  show dN e (19 + 1) 341 _ _ = _
  rw [dN_atT (j := 341) (as := [.ref x, .int y1, .ref o]) (m := m) (ls := [some (.ref x), some (.int y1), some (.ref o), none]) rfl rfl rfl rfl, dFu, q341_0, h, kI_r, hs, bd_s, q341_1]
  rfl
theorem w341_e1 {o : Nat} {y1 : Int32} (h : dN e 19 127 [.ref x, .int y1] m = some (.inr 1, m1)) : dN e 20 341 [.ref x, .int y1, .ref o] m = rI (Int32.ofNat 1) m1 := by
  show dN e (19 + 1) 341 _ _ = _
  have hj : ∀ n, hJ (dhd 341) (runL e (dN e 19) 341 (n + 1)) [some (.ref x), some (.int y1), some (.ref o), none] 1 m1 = rI (Int32.ofNat 1) m1 := fun n => rfl
  rw [dN_atT (j := 341) (as := [.ref x, .int y1, .ref o]) (m := m) (ls := [some (.ref x), some (.int y1), some (.ref o), none]) rfl rfl rfl rfl, dFu, q341_0, h, kI_h, hj]
  rfl
theorem w341_e2 {o : Nat} {y1 : Int32} (h : dN e 19 127 [.ref x, .int y1] m = some (.inr 2, m1)) : dN e 20 341 [.ref x, .int y1, .ref o] m = rI (Int32.ofNat 2) m1 := by
  show dN e (19 + 1) 341 _ _ = _
  have hj : ∀ n, hJ (dhd 341) (runL e (dN e 19) 341 (n + 1)) [some (.ref x), some (.int y1), some (.ref o), none] 2 m1 = rI (Int32.ofNat 2) m1 := fun n => rfl
  rw [dN_atT (j := 341) (as := [.ref x, .int y1, .ref o]) (m := m) (ls := [some (.ref x), some (.int y1), some (.ref o), none]) rfl rfl rfl rfl, dFu, q341_0, h, kI_h, hj]
  rfl
theorem w342_0 {o : Nat} {y1 : Int32} (h : dN e 19 128 [.ref x, .int y1] m = rI v m1) (hs : sL e m1 1 o (Int32.ofNat 0) v.toInt64 = some m2) : dN e 20 342 [.ref x, .int y1, .ref o] m = rI (Int32.ofNat 0) m2 := by
  show dN e (19 + 1) 342 _ _ = _
  rw [dN_atT (j := 342) (as := [.ref x, .int y1, .ref o]) (m := m) (ls := [some (.ref x), some (.int y1), some (.ref o), none]) rfl rfl rfl rfl, dFu, q342_0, h, kI_r, hs, bd_s, q342_1]
  rfl
theorem w342_e1 {o : Nat} {y1 : Int32} (h : dN e 19 128 [.ref x, .int y1] m = some (.inr 1, m1)) : dN e 20 342 [.ref x, .int y1, .ref o] m = rI (Int32.ofNat 1) m1 := by
  show dN e (19 + 1) 342 _ _ = _
  have hj : ∀ n, hJ (dhd 342) (runL e (dN e 19) 342 (n + 1)) [some (.ref x), some (.int y1), some (.ref o), none] 1 m1 = rI (Int32.ofNat 1) m1 := fun n => rfl
  rw [dN_atT (j := 342) (as := [.ref x, .int y1, .ref o]) (m := m) (ls := [some (.ref x), some (.int y1), some (.ref o), none]) rfl rfl rfl rfl, dFu, q342_0, h, kI_h, hj]
  rfl
theorem w342_e2 {o : Nat} {y1 : Int32} (h : dN e 19 128 [.ref x, .int y1] m = some (.inr 2, m1)) : dN e 20 342 [.ref x, .int y1, .ref o] m = rI (Int32.ofNat 2) m1 := by
  show dN e (19 + 1) 342 _ _ = _
  have hj : ∀ n, hJ (dhd 342) (runL e (dN e 19) 342 (n + 1)) [some (.ref x), some (.int y1), some (.ref o), none] 2 m1 = rI (Int32.ofNat 2) m1 := fun n => rfl
  rw [dN_atT (j := 342) (as := [.ref x, .int y1, .ref o]) (m := m) (ls := [some (.ref x), some (.int y1), some (.ref o), none]) rfl rfl rfl rfl, dFu, q342_0, h, kI_h, hj]
  rfl
theorem w343_0 {o : Nat} {y1 : Int32} (h : dN e 19 129 [.ref x, .int y1] m = rI v m1) (hs : sL e m1 1 o (Int32.ofNat 0) v.toInt64 = some m2) : dN e 20 343 [.ref x, .int y1, .ref o] m = rI (Int32.ofNat 0) m2 := by
  show dN e (19 + 1) 343 _ _ = _
  rw [dN_atT (j := 343) (as := [.ref x, .int y1, .ref o]) (m := m) (ls := [some (.ref x), some (.int y1), some (.ref o), none]) rfl rfl rfl rfl, dFu, q343_0, h, kI_r, hs, bd_s, q343_1]
  rfl
theorem w343_e1 {o : Nat} {y1 : Int32} (h : dN e 19 129 [.ref x, .int y1] m = some (.inr 1, m1)) : dN e 20 343 [.ref x, .int y1, .ref o] m = rI (Int32.ofNat 1) m1 := by
  show dN e (19 + 1) 343 _ _ = _
  have hj : ∀ n, hJ (dhd 343) (runL e (dN e 19) 343 (n + 1)) [some (.ref x), some (.int y1), some (.ref o), none] 1 m1 = rI (Int32.ofNat 1) m1 := fun n => rfl
  rw [dN_atT (j := 343) (as := [.ref x, .int y1, .ref o]) (m := m) (ls := [some (.ref x), some (.int y1), some (.ref o), none]) rfl rfl rfl rfl, dFu, q343_0, h, kI_h, hj]
  rfl
theorem w343_e3 {o : Nat} {y1 : Int32} (h : dN e 19 129 [.ref x, .int y1] m = some (.inr 3, m1)) : dN e 20 343 [.ref x, .int y1, .ref o] m = rI (Int32.ofNat 2) m1 := by
  show dN e (19 + 1) 343 _ _ = _
  have hj : ∀ n, hJ (dhd 343) (runL e (dN e 19) 343 (n + 1)) [some (.ref x), some (.int y1), some (.ref o), none] 3 m1 = rI (Int32.ofNat 2) m1 := fun n => rfl
  rw [dN_atT (j := 343) (as := [.ref x, .int y1, .ref o]) (m := m) (ls := [some (.ref x), some (.int y1), some (.ref o), none]) rfl rfl rfl rfl, dFu, q343_0, h, kI_h, hj]
  rfl
theorem w344_0 {o : Nat} {y1 : Int32} (h : dN e 19 130 [.ref x, .int y1] m = rI v m1) (hs : sL e m1 1 o (Int32.ofNat 0) v.toInt64 = some m2) : dN e 20 344 [.ref x, .int y1, .ref o] m = rI (Int32.ofNat 0) m2 := by
  show dN e (19 + 1) 344 _ _ = _
  rw [dN_atT (j := 344) (as := [.ref x, .int y1, .ref o]) (m := m) (ls := [some (.ref x), some (.int y1), some (.ref o), none]) rfl rfl rfl rfl, dFu, q344_0, h, kI_r, hs, bd_s, q344_1]
  rfl
theorem w344_e1 {o : Nat} {y1 : Int32} (h : dN e 19 130 [.ref x, .int y1] m = some (.inr 1, m1)) : dN e 20 344 [.ref x, .int y1, .ref o] m = rI (Int32.ofNat 1) m1 := by
  show dN e (19 + 1) 344 _ _ = _
  have hj : ∀ n, hJ (dhd 344) (runL e (dN e 19) 344 (n + 1)) [some (.ref x), some (.int y1), some (.ref o), none] 1 m1 = rI (Int32.ofNat 1) m1 := fun n => rfl
  rw [dN_atT (j := 344) (as := [.ref x, .int y1, .ref o]) (m := m) (ls := [some (.ref x), some (.int y1), some (.ref o), none]) rfl rfl rfl rfl, dFu, q344_0, h, kI_h, hj]
  rfl
theorem w344_e3 {o : Nat} {y1 : Int32} (h : dN e 19 130 [.ref x, .int y1] m = some (.inr 3, m1)) : dN e 20 344 [.ref x, .int y1, .ref o] m = rI (Int32.ofNat 2) m1 := by
  show dN e (19 + 1) 344 _ _ = _
  have hj : ∀ n, hJ (dhd 344) (runL e (dN e 19) 344 (n + 1)) [some (.ref x), some (.int y1), some (.ref o), none] 3 m1 = rI (Int32.ofNat 2) m1 := fun n => rfl
  rw [dN_atT (j := 344) (as := [.ref x, .int y1, .ref o]) (m := m) (ls := [some (.ref x), some (.int y1), some (.ref o), none]) rfl rfl rfl rfl, dFu, q344_0, h, kI_h, hj]
  rfl
theorem w345_0 {o : Nat} {y1 : Int32} (h : dN e 19 131 [.ref x, .int y1] m = rI v m1) (hs : sL e m1 1 o (Int32.ofNat 0) v.toInt64 = some m2) : dN e 20 345 [.ref x, .int y1, .ref o] m = rI (Int32.ofNat 0) m2 := by
  show dN e (19 + 1) 345 _ _ = _
  rw [dN_atT (j := 345) (as := [.ref x, .int y1, .ref o]) (m := m) (ls := [some (.ref x), some (.int y1), some (.ref o), none]) rfl rfl rfl rfl, dFu, q345_0, h, kI_r, hs, bd_s, q345_1]
  rfl
theorem w345_e1 {o : Nat} {y1 : Int32} (h : dN e 19 131 [.ref x, .int y1] m = some (.inr 1, m1)) : dN e 20 345 [.ref x, .int y1, .ref o] m = rI (Int32.ofNat 1) m1 := by
  show dN e (19 + 1) 345 _ _ = _
  have hj : ∀ n, hJ (dhd 345) (runL e (dN e 19) 345 (n + 1)) [some (.ref x), some (.int y1), some (.ref o), none] 1 m1 = rI (Int32.ofNat 1) m1 := fun n => rfl
  rw [dN_atT (j := 345) (as := [.ref x, .int y1, .ref o]) (m := m) (ls := [some (.ref x), some (.int y1), some (.ref o), none]) rfl rfl rfl rfl, dFu, q345_0, h, kI_h, hj]
  rfl
theorem w345_e3 {o : Nat} {y1 : Int32} (h : dN e 19 131 [.ref x, .int y1] m = some (.inr 3, m1)) : dN e 20 345 [.ref x, .int y1, .ref o] m = rI (Int32.ofNat 2) m1 := by
  show dN e (19 + 1) 345 _ _ = _
  have hj : ∀ n, hJ (dhd 345) (runL e (dN e 19) 345 (n + 1)) [some (.ref x), some (.int y1), some (.ref o), none] 3 m1 = rI (Int32.ofNat 2) m1 := fun n => rfl
  rw [dN_atT (j := 345) (as := [.ref x, .int y1, .ref o]) (m := m) (ls := [some (.ref x), some (.int y1), some (.ref o), none]) rfl rfl rfl rfl, dFu, q345_0, h, kI_h, hj]
  rfl
theorem w346_0 {o : Nat} (h : dN e 19 132 [.ref x] m = rI v m1) (hs : sL e m1 1 o (Int32.ofNat 0) v.toInt64 = some m2) : dN e 20 346 [.ref x, .ref o] m = rI (Int32.ofNat 0) m2 := by
  show dN e (19 + 1) 346 _ _ = _
  rw [dN_atT (j := 346) (as := [.ref x, .ref o]) (m := m) (ls := [some (.ref x), some (.ref o), none]) rfl rfl rfl rfl, dFu, q346_0, h, kI_r, hs, bd_s, q346_1]
  rfl
theorem w346_e1 {o : Nat} (h : dN e 19 132 [.ref x] m = some (.inr 1, m1)) : dN e 20 346 [.ref x, .ref o] m = rI (Int32.ofNat 1) m1 := by
  show dN e (19 + 1) 346 _ _ = _
  have hj : ∀ n, hJ (dhd 346) (runL e (dN e 19) 346 (n + 1)) [some (.ref x), some (.ref o), none] 1 m1 = rI (Int32.ofNat 1) m1 := fun n => rfl
  rw [dN_atT (j := 346) (as := [.ref x, .ref o]) (m := m) (ls := [some (.ref x), some (.ref o), none]) rfl rfl rfl rfl, dFu, q346_0, h, kI_h, hj]
  rfl
theorem w347_0 {o : Nat} {f : UInt32} (hf : FP.f2d f &&& 0x7fffffffffffffff ≤ 0x7ff0000000000000) (h : dN e 19 133 [.ref x] m = some (.inl (some (.float f)), m1)) (hs : sD e m1 2 o (Int32.ofNat 0) (FP.f2d f) = some m2) : dN e 20 347 [.ref x, .ref o] m = rI (Int32.ofNat 0) m2 := by
  show dN e (19 + 1) 347 _ _ = _
  rw [dN_atT (j := 347) (as := [.ref x, .ref o]) (m := m) (ls := [some (.ref x), some (.ref o), none]) rfl rfl rfl rfl, dFu, q347_0, h, kF_v, if_pos hf, hs, bd_s, q347_1]
  rfl
theorem w347_e1 {o : Nat} (h : dN e 19 133 [.ref x] m = some (.inr 1, m1)) : dN e 20 347 [.ref x, .ref o] m = rI (Int32.ofNat 1) m1 := by
  show dN e (19 + 1) 347 _ _ = _
  have hj : ∀ n, hJ (dhd 347) (runL e (dN e 19) 347 (n + 1)) [some (.ref x), some (.ref o), none] 1 m1 = rI (Int32.ofNat 1) m1 := fun n => rfl
  rw [dN_atT (j := 347) (as := [.ref x, .ref o]) (m := m) (ls := [some (.ref x), some (.ref o), none]) rfl rfl rfl rfl, dFu, q347_0, h, kF_h, hj]
  rfl
theorem w348_0 {o : Nat} {f : UInt64} (h : dN e 19 134 [.ref x] m = some (.inl (some (.double f)), m1)) (hs : sD e m1 2 o (Int32.ofNat 0) (f) = some m2) : dN e 20 348 [.ref x, .ref o] m = rI (Int32.ofNat 0) m2 := by
  show dN e (19 + 1) 348 _ _ = _
  rw [dN_atT (j := 348) (as := [.ref x, .ref o]) (m := m) (ls := [some (.ref x), some (.ref o), none]) rfl rfl rfl rfl, dFu, q348_0, h, kD_v, hs, bd_s, q348_1]
  rfl
theorem w348_e1 {o : Nat} (h : dN e 19 134 [.ref x] m = some (.inr 1, m1)) : dN e 20 348 [.ref x, .ref o] m = rI (Int32.ofNat 1) m1 := by
  show dN e (19 + 1) 348 _ _ = _
  have hj : ∀ n, hJ (dhd 348) (runL e (dN e 19) 348 (n + 1)) [some (.ref x), some (.ref o), none] 1 m1 = rI (Int32.ofNat 1) m1 := fun n => rfl
  rw [dN_atT (j := 348) (as := [.ref x, .ref o]) (m := m) (ls := [some (.ref x), some (.ref o), none]) rfl rfl rfl rfl, dFu, q348_0, h, kD_h, hj]
  rfl
theorem w349_0 {o : Nat} {y1 : Int32} (h : dN e 19 135 [.ref x, .int y1] m = rI v m1) (hs : sL e m1 1 o (Int32.ofNat 0) v.toInt64 = some m2) : dN e 20 349 [.ref x, .int y1, .ref o] m = rI (Int32.ofNat 0) m2 := by
  show dN e (19 + 1) 349 _ _ = _
  rw [dN_atT (j := 349) (as := [.ref x, .int y1, .ref o]) (m := m) (ls := [some (.ref x), some (.int y1), some (.ref o), none]) rfl rfl rfl rfl, dFu, q349_0, h, kI_r, hs, bd_s, q349_1]
  rfl
theorem w349_e1 {o : Nat} {y1 : Int32} (h : dN e 19 135 [.ref x, .int y1] m = some (.inr 1, m1)) : dN e 20 349 [.ref x, .int y1, .ref o] m = rI (Int32.ofNat 1) m1 := by
  show dN e (19 + 1) 349 _ _ = _
  have hj : ∀ n, hJ (dhd 349) (runL e (dN e 19) 349 (n + 1)) [some (.ref x), some (.int y1), some (.ref o), none] 1 m1 = rI (Int32.ofNat 1) m1 := fun n => rfl
  rw [dN_atT (j := 349) (as := [.ref x, .int y1, .ref o]) (m := m) (ls := [some (.ref x), some (.int y1), some (.ref o), none]) rfl rfl rfl rfl, dFu, q349_0, h, kI_h, hj]
  rfl
theorem w349_e2 {o : Nat} {y1 : Int32} (h : dN e 19 135 [.ref x, .int y1] m = some (.inr 2, m1)) : dN e 20 349 [.ref x, .int y1, .ref o] m = rI (Int32.ofNat 2) m1 := by
  show dN e (19 + 1) 349 _ _ = _
  have hj : ∀ n, hJ (dhd 349) (runL e (dN e 19) 349 (n + 1)) [some (.ref x), some (.int y1), some (.ref o), none] 2 m1 = rI (Int32.ofNat 2) m1 := fun n => rfl
  rw [dN_atT (j := 349) (as := [.ref x, .int y1, .ref o]) (m := m) (ls := [some (.ref x), some (.int y1), some (.ref o), none]) rfl rfl rfl rfl, dFu, q349_0, h, kI_h, hj]
  rfl
theorem w350_0 {o : Nat} {y1 : Int32} (h : dN e 19 136 [.ref x, .int y1] m = rI v m1) (hs : sL e m1 1 o (Int32.ofNat 0) v.toInt64 = some m2) : dN e 20 350 [.ref x, .int y1, .ref o] m = rI (Int32.ofNat 0) m2 := by
  show dN e (19 + 1) 350 _ _ = _
  rw [dN_atT (j := 350) (as := [.ref x, .int y1, .ref o]) (m := m) (ls := [some (.ref x), some (.int y1), some (.ref o), none]) rfl rfl rfl rfl, dFu, q350_0, h, kI_r, hs, bd_s, q350_1]
  rfl
theorem w350_e1 {o : Nat} {y1 : Int32} (h : dN e 19 136 [.ref x, .int y1] m = some (.inr 1, m1)) : dN e 20 350 [.ref x, .int y1, .ref o] m = rI (Int32.ofNat 1) m1 := by
  show dN e (19 + 1) 350 _ _ = _
  have hj : ∀ n, hJ (dhd 350) (runL e (dN e 19) 350 (n + 1)) [some (.ref x), some (.int y1), some (.ref o), none] 1 m1 = rI (Int32.ofNat 1) m1 := fun n => rfl
  rw [dN_atT (j := 350) (as := [.ref x, .int y1, .ref o]) (m := m) (ls := [some (.ref x), some (.int y1), some (.ref o), none]) rfl rfl rfl rfl, dFu, q350_0, h, kI_h, hj]
  rfl
theorem w350_e2 {o : Nat} {y1 : Int32} (h : dN e 19 136 [.ref x, .int y1] m = some (.inr 2, m1)) : dN e 20 350 [.ref x, .int y1, .ref o] m = rI (Int32.ofNat 2) m1 := by
  show dN e (19 + 1) 350 _ _ = _
  have hj : ∀ n, hJ (dhd 350) (runL e (dN e 19) 350 (n + 1)) [some (.ref x), some (.int y1), some (.ref o), none] 2 m1 = rI (Int32.ofNat 2) m1 := fun n => rfl
  rw [dN_atT (j := 350) (as := [.ref x, .int y1, .ref o]) (m := m) (ls := [some (.ref x), some (.int y1), some (.ref o), none]) rfl rfl rfl rfl, dFu, q350_0, h, kI_h, hj]
  rfl
theorem w351_0 {o : Nat} (h : dN e 19 137 [.ref x] m = rI v m1) (hs : sL e m1 1 o (Int32.ofNat 0) v.toInt64 = some m2) : dN e 20 351 [.ref x, .ref o] m = rI (Int32.ofNat 0) m2 := by
  show dN e (19 + 1) 351 _ _ = _
  rw [dN_atT (j := 351) (as := [.ref x, .ref o]) (m := m) (ls := [some (.ref x), some (.ref o), none]) rfl rfl rfl rfl, dFu, q351_0, h, kI_r, hs, bd_s, q351_1]
  rfl
theorem w351_e1 {o : Nat} (h : dN e 19 137 [.ref x] m = some (.inr 1, m1)) : dN e 20 351 [.ref x, .ref o] m = rI (Int32.ofNat 1) m1 := by
  show dN e (19 + 1) 351 _ _ = _
  have hj : ∀ n, hJ (dhd 351) (runL e (dN e 19) 351 (n + 1)) [some (.ref x), some (.ref o), none] 1 m1 = rI (Int32.ofNat 1) m1 := fun n => rfl
  rw [dN_atT (j := 351) (as := [.ref x, .ref o]) (m := m) (ls := [some (.ref x), some (.ref o), none]) rfl rfl rfl rfl, dFu, q351_0, h, kI_h, hj]
  rfl
theorem w352_0 {o : Nat} {y1 : Int32} (h : dN e 19 138 [.ref x, .int y1] m = rI v m1) (hs : sL e m1 1 o (Int32.ofNat 0) v.toInt64 = some m2) : dN e 20 352 [.ref x, .int y1, .ref o] m = rI (Int32.ofNat 0) m2 := by
  show dN e (19 + 1) 352 _ _ = _
  rw [dN_atT (j := 352) (as := [.ref x, .int y1, .ref o]) (m := m) (ls := [some (.ref x), some (.int y1), some (.ref o), none]) rfl rfl rfl rfl, dFu, q352_0, h, kI_r, hs, bd_s, q352_1]
  rfl
theorem w352_e2 {o : Nat} {y1 : Int32} (h : dN e 19 138 [.ref x, .int y1] m = some (.inr 2, m1)) : dN e 20 352 [.ref x, .int y1, .ref o] m = rI (Int32.ofNat 1) m1 := by
  show dN e (19 + 1) 352 _ _ = _
  have hj : ∀ n, hJ (dhd 352) (runL e (dN e 19) 352 (n + 1)) [some (.ref x), some (.int y1), some (.ref o), none] 2 m1 = rI (Int32.ofNat 1) m1 := fun n => rfl
  rw [dN_atT (j := 352) (as := [.ref x, .int y1, .ref o]) (m := m) (ls := [some (.ref x), some (.int y1), some (.ref o), none]) rfl rfl rfl rfl, dFu, q352_0, h, kI_h, hj]
  rfl
theorem w353_0 {o : Nat} {y1 : Int32} (h : dN e 19 139 [.ref x, .int y1] m = rI v m1) (hs : sL e m1 1 o (Int32.ofNat 0) v.toInt64 = some m2) : dN e 20 353 [.ref x, .int y1, .ref o] m = rI (Int32.ofNat 0) m2 := by
  show dN e (19 + 1) 353 _ _ = _
  rw [dN_atT (j := 353) (as := [.ref x, .int y1, .ref o]) (m := m) (ls := [some (.ref x), some (.int y1), some (.ref o), none]) rfl rfl rfl rfl, dFu, q353_0, h, kI_r, hs, bd_s, q353_1]
  rfl
theorem w353_e1 {o : Nat} {y1 : Int32} (h : dN e 19 139 [.ref x, .int y1] m = some (.inr 1, m1)) : dN e 20 353 [.ref x, .int y1, .ref o] m = rI (Int32.ofNat 1) m1 := by
  show dN e (19 + 1) 353 _ _ = _
  have hj : ∀ n, hJ (dhd 353) (runL e (dN e 19) 353 (n + 1)) [some (.ref x), some (.int y1), some (.ref o), none] 1 m1 = rI (Int32.ofNat 1) m1 := fun n => rfl
  rw [dN_atT (j := 353) (as := [.ref x, .int y1, .ref o]) (m := m) (ls := [some (.ref x), some (.int y1), some (.ref o), none]) rfl rfl rfl rfl, dFu, q353_0, h, kI_h, hj]
  rfl
theorem w353_e3 {o : Nat} {y1 : Int32} (h : dN e 19 139 [.ref x, .int y1] m = some (.inr 3, m1)) : dN e 20 353 [.ref x, .int y1, .ref o] m = rI (Int32.ofNat 2) m1 := by
  show dN e (19 + 1) 353 _ _ = _
  have hj : ∀ n, hJ (dhd 353) (runL e (dN e 19) 353 (n + 1)) [some (.ref x), some (.int y1), some (.ref o), none] 3 m1 = rI (Int32.ofNat 2) m1 := fun n => rfl
  rw [dN_atT (j := 353) (as := [.ref x, .int y1, .ref o]) (m := m) (ls := [some (.ref x), some (.int y1), some (.ref o), none]) rfl rfl rfl rfl, dFu, q353_0, h, kI_h, hj]
  rfl
theorem w354_0 {o : Nat} {y1 y2 : Int32} (h : dN e 19 140 [.ref x, .int y1, .int y2] m = rI v m1) (hs : sL e m1 1 o (Int32.ofNat 0) v.toInt64 = some m2) : dN e 20 354 [.ref x, .int y1, .int y2, .ref o] m = rI (Int32.ofNat 0) m2 := by
  show dN e (19 + 1) 354 _ _ = _
  rw [dN_atT (j := 354) (as := [.ref x, .int y1, .int y2, .ref o]) (m := m) (ls := [some (.ref x), some (.int y1), some (.int y2), some (.ref o), none]) rfl rfl rfl rfl, dFu, q354_0, h, kI_r, hs, bd_s, q354_1]
  rfl
theorem w354_e1 {o : Nat} {y1 y2 : Int32} (h : dN e 19 140 [.ref x, .int y1, .int y2] m = some (.inr 1, m1)) : dN e 20 354 [.ref x, .int y1, .int y2, .ref o] m = rI (Int32.ofNat 1) m1 := by
  show dN e (19 + 1) 354 _ _ = _
  have hj : ∀ n, hJ (dhd 354) (runL e (dN e 19) 354 (n + 1)) [some (.ref x), some (.int y1), some (.int y2), some (.ref o), none] 1 m1 = rI (Int32.ofNat 1) m1 := fun n => rfl
  rw [dN_atT (j := 354) (as := [.ref x, .int y1, .int y2, .ref o]) (m := m) (ls := [some (.ref x), some (.int y1), some (.int y2), some (.ref o), none]) rfl rfl rfl rfl, dFu, q354_0, h, kI_h, hj]
  rfl
theorem w354_e2 {o : Nat} {y1 y2 : Int32} (h : dN e 19 140 [.ref x, .int y1, .int y2] m = some (.inr 2, m1)) : dN e 20 354 [.ref x, .int y1, .int y2, .ref o] m = rI (Int32.ofNat 2) m1 := by
  show dN e (19 + 1) 354 _ _ = _
  have hj : ∀ n, hJ (dhd 354) (runL e (dN e 19) 354 (n + 1)) [some (.ref x), some (.int y1), some (.int y2), some (.ref o), none] 2 m1 = rI (Int32.ofNat 2) m1 := fun n => rfl
  rw [dN_atT (j := 354) (as := [.ref x, .int y1, .int y2, .ref o]) (m := m) (ls := [some (.ref x), some (.int y1), some (.int y2), some (.ref o), none]) rfl rfl rfl rfl, dFu, q354_0, h, kI_h, hj]
  rfl
theorem w354_e3 {o : Nat} {y1 y2 : Int32} (h : dN e 19 140 [.ref x, .int y1, .int y2] m = some (.inr 3, m1)) : dN e 20 354 [.ref x, .int y1, .int y2, .ref o] m = rI (Int32.ofNat 3) m1 := by
  show dN e (19 + 1) 354 _ _ = _
  have hj : ∀ n, hJ (dhd 354) (runL e (dN e 19) 354 (n + 1)) [some (.ref x), some (.int y1), some (.int y2), some (.ref o), none] 3 m1 = rI (Int32.ofNat 3) m1 := fun n => rfl
  rw [dN_atT (j := 354) (as := [.ref x, .int y1, .int y2, .ref o]) (m := m) (ls := [some (.ref x), some (.int y1), some (.int y2), some (.ref o), none]) rfl rfl rfl rfl, dFu, q354_0, h, kI_h, hj]
  rfl
theorem w355_0 {o : Nat} {y1 y2 y3 : Int32} (h : dN e 19 141 [.ref x, .int y1, .int y2, .int y3] m = rI v m1) (hs : sL e m1 1 o (Int32.ofNat 0) v.toInt64 = some m2) : dN e 20 355 [.ref x, .int y1, .int y2, .int y3, .ref o] m = rI (Int32.ofNat 0) m2 := by
  show dN e (19 + 1) 355 _ _ = _
  rw [dN_atT (j := 355) (as := [.ref x, .int y1, .int y2, .int y3, .ref o]) (m := m) (ls := [some (.ref x), some (.int y1), some (.int y2), some (.int y3), some (.ref o), none]) rfl rfl rfl rfl, dFu, q355_0, h, kI_r, hs, bd_s, q355_1]
  rfl
theorem w355_e1 {o : Nat} {y1 y2 y3 : Int32} (h : dN e 19 141 [.ref x, .int y1, .int y2, .int y3] m = some (.inr 1, m1)) : dN e 20 355 [.ref x, .int y1, .int y2, .int y3, .ref o] m = rI (Int32.ofNat 1) m1 := by
  show dN e (19 + 1) 355 _ _ = _
  have hj : ∀ n, hJ (dhd 355) (runL e (dN e 19) 355 (n + 1)) [some (.ref x), some (.int y1), some (.int y2), some (.int y3), some (.ref o), none] 1 m1 = rI (Int32.ofNat 1) m1 := fun n => rfl
  rw [dN_atT (j := 355) (as := [.ref x, .int y1, .int y2, .int y3, .ref o]) (m := m) (ls := [some (.ref x), some (.int y1), some (.int y2), some (.int y3), some (.ref o), none]) rfl rfl rfl rfl, dFu, q355_0, h, kI_h, hj]
  rfl
theorem w355_e2 {o : Nat} {y1 y2 y3 : Int32} (h : dN e 19 141 [.ref x, .int y1, .int y2, .int y3] m = some (.inr 2, m1)) : dN e 20 355 [.ref x, .int y1, .int y2, .int y3, .ref o] m = rI (Int32.ofNat 2) m1 := by
  show dN e (19 + 1) 355 _ _ = _
  have hj : ∀ n, hJ (dhd 355) (runL e (dN e 19) 355 (n + 1)) [some (.ref x), some (.int y1), some (.int y2), some (.int y3), some (.ref o), none] 2 m1 = rI (Int32.ofNat 2) m1 := fun n => rfl
  rw [dN_atT (j := 355) (as := [.ref x, .int y1, .int y2, .int y3, .ref o]) (m := m) (ls := [some (.ref x), some (.int y1), some (.int y2), some (.int y3), some (.ref o), none]) rfl rfl rfl rfl, dFu, q355_0, h, kI_h, hj]
  rfl
theorem w355_e3 {o : Nat} {y1 y2 y3 : Int32} (h : dN e 19 141 [.ref x, .int y1, .int y2, .int y3] m = some (.inr 3, m1)) : dN e 20 355 [.ref x, .int y1, .int y2, .int y3, .ref o] m = rI (Int32.ofNat 3) m1 := by
  show dN e (19 + 1) 355 _ _ = _
  have hj : ∀ n, hJ (dhd 355) (runL e (dN e 19) 355 (n + 1)) [some (.ref x), some (.int y1), some (.int y2), some (.int y3), some (.ref o), none] 3 m1 = rI (Int32.ofNat 3) m1 := fun n => rfl
  rw [dN_atT (j := 355) (as := [.ref x, .int y1, .int y2, .int y3, .ref o]) (m := m) (ls := [some (.ref x), some (.int y1), some (.int y2), some (.int y3), some (.ref o), none]) rfl rfl rfl rfl, dFu, q355_0, h, kI_h, hj]
  rfl
theorem w356_0 {o : Nat} {y1 y2 : Int32} (h : dN e 19 142 [.ref x, .int y1, .int y2] m = rI v m1) (hs : sL e m1 1 o (Int32.ofNat 0) v.toInt64 = some m2) : dN e 20 356 [.ref x, .int y1, .int y2, .ref o] m = rI (Int32.ofNat 0) m2 := by
  show dN e (19 + 1) 356 _ _ = _
  rw [dN_atT (j := 356) (as := [.ref x, .int y1, .int y2, .ref o]) (m := m) (ls := [some (.ref x), some (.int y1), some (.int y2), some (.ref o), none]) rfl rfl rfl rfl, dFu, q356_0, h, kI_r, hs, bd_s, q356_1]
  rfl
theorem w356_e1 {o : Nat} {y1 y2 : Int32} (h : dN e 19 142 [.ref x, .int y1, .int y2] m = some (.inr 1, m1)) : dN e 20 356 [.ref x, .int y1, .int y2, .ref o] m = rI (Int32.ofNat 1) m1 := by
  show dN e (19 + 1) 356 _ _ = _
  have hj : ∀ n, hJ (dhd 356) (runL e (dN e 19) 356 (n + 1)) [some (.ref x), some (.int y1), some (.int y2), some (.ref o), none] 1 m1 = rI (Int32.ofNat 1) m1 := fun n => rfl
  rw [dN_atT (j := 356) (as := [.ref x, .int y1, .int y2, .ref o]) (m := m) (ls := [some (.ref x), some (.int y1), some (.int y2), some (.ref o), none]) rfl rfl rfl rfl, dFu, q356_0, h, kI_h, hj]
  rfl
theorem w356_e2 {o : Nat} {y1 y2 : Int32} (h : dN e 19 142 [.ref x, .int y1, .int y2] m = some (.inr 2, m1)) : dN e 20 356 [.ref x, .int y1, .int y2, .ref o] m = rI (Int32.ofNat 2) m1 := by
  show dN e (19 + 1) 356 _ _ = _
  have hj : ∀ n, hJ (dhd 356) (runL e (dN e 19) 356 (n + 1)) [some (.ref x), some (.int y1), some (.int y2), some (.ref o), none] 2 m1 = rI (Int32.ofNat 2) m1 := fun n => rfl
  rw [dN_atT (j := 356) (as := [.ref x, .int y1, .int y2, .ref o]) (m := m) (ls := [some (.ref x), some (.int y1), some (.int y2), some (.ref o), none]) rfl rfl rfl rfl, dFu, q356_0, h, kI_h, hj]
  rfl
theorem w356_e3 {o : Nat} {y1 y2 : Int32} (h : dN e 19 142 [.ref x, .int y1, .int y2] m = some (.inr 3, m1)) : dN e 20 356 [.ref x, .int y1, .int y2, .ref o] m = rI (Int32.ofNat 3) m1 := by
  show dN e (19 + 1) 356 _ _ = _
  have hj : ∀ n, hJ (dhd 356) (runL e (dN e 19) 356 (n + 1)) [some (.ref x), some (.int y1), some (.int y2), some (.ref o), none] 3 m1 = rI (Int32.ofNat 3) m1 := fun n => rfl
  rw [dN_atT (j := 356) (as := [.ref x, .int y1, .int y2, .ref o]) (m := m) (ls := [some (.ref x), some (.int y1), some (.int y2), some (.ref o), none]) rfl rfl rfl rfl, dFu, q356_0, h, kI_h, hj]
  rfl
theorem w357_0 {o : Nat} {y1 y2 : Int32} (h : dN e 19 143 [.ref x, .int y1, .int y2] m = rI v m1) (hs : sL e m1 1 o (Int32.ofNat 0) (if v = Int32.ofNat 0 then 0 else 1) = some m2) : dN e 20 357 [.ref x, .int y1, .int y2, .ref o] m = rI (Int32.ofNat 0) m2 := by
  show dN e (19 + 1) 357 _ _ = _
  rw [dN_atT (j := 357) (as := [.ref x, .int y1, .int y2, .ref o]) (m := m) (ls := [some (.ref x), some (.int y1), some (.int y2), some (.ref o), none]) rfl rfl rfl rfl, dFu, q357_0, h, kI_r]
  by_cases q : v = Int32.ofNat 0
  · rw [if_pos q] at hs ⊢
    rw [q357_1, q357_2, hs, bd_s, q357_3]
    rfl
  · rw [if_neg q] at hs ⊢
    rw [q357_2, hs, bd_s, q357_3]
    rfl
theorem w357_e1 {o : Nat} {y1 y2 : Int32} (h : dN e 19 143 [.ref x, .int y1, .int y2] m = some (.inr 1, m1)) : dN e 20 357 [.ref x, .int y1, .int y2, .ref o] m = rI (Int32.ofNat 1) m1 := by
  show dN e (19 + 1) 357 _ _ = _
  have hj : ∀ n, hJ (dhd 357) (runL e (dN e 19) 357 (n + 1)) [some (.ref x), some (.int y1), some (.int y2), some (.ref o), none] 1 m1 = rI (Int32.ofNat 1) m1 := fun n => rfl
  rw [dN_atT (j := 357) (as := [.ref x, .int y1, .int y2, .ref o]) (m := m) (ls := [some (.ref x), some (.int y1), some (.int y2), some (.ref o), none]) rfl rfl rfl rfl, dFu, q357_0, h, kI_h, hj]
  rfl
theorem w357_e2 {o : Nat} {y1 y2 : Int32} (h : dN e 19 143 [.ref x, .int y1, .int y2] m = some (.inr 2, m1)) : dN e 20 357 [.ref x, .int y1, .int y2, .ref o] m = rI (Int32.ofNat 2) m1 := by
  show dN e (19 + 1) 357 _ _ = _
  have hj : ∀ n, hJ (dhd 357) (runL e (dN e 19) 357 (n + 1)) [some (.ref x), some (.int y1), some (.int y2), some (.ref o), none] 2 m1 = rI (Int32.ofNat 2) m1 := fun n => rfl
  rw [dN_atT (j := 357) (as := [.ref x, .int y1, .int y2, .ref o]) (m := m) (ls := [some (.ref x), some (.int y1), some (.int y2), some (.ref o), none]) rfl rfl rfl rfl, dFu, q357_0, h, kI_h, hj]
  rfl
theorem w357_e3 {o : Nat} {y1 y2 : Int32} (h : dN e 19 143 [.ref x, .int y1, .int y2] m = some (.inr 3, m1)) : dN e 20 357 [.ref x, .int y1, .int y2, .ref o] m = rI (Int32.ofNat 3) m1 := by
  show dN e (19 + 1) 357 _ _ = _
  have hj : ∀ n, hJ (dhd 357) (runL e (dN e 19) 357 (n + 1)) [some (.ref x), some (.int y1), some (.int y2), some (.ref o), none] 3 m1 = rI (Int32.ofNat 3) m1 := fun n => rfl
  rw [dN_atT (j := 357) (as := [.ref x, .int y1, .int y2, .ref o]) (m := m) (ls := [some (.ref x), some (.int y1), some (.int y2), some (.ref o), none]) rfl rfl rfl rfl, dFu, q357_0, h, kI_h, hj]
  rfl
theorem w358_0 {o : Nat} {y1 : Int32} (h : dN e 19 144 [.ref x, .int y1] m = rI v m1) (hs : sL e m1 1 o (Int32.ofNat 0) v.toInt64 = some m2) : dN e 20 358 [.ref x, .int y1, .ref o] m = rI (Int32.ofNat 0) m2 := by
  show dN e (19 + 1) 358 _ _ = _
  rw [dN_atT (j := 358) (as := [.ref x, .int y1, .ref o]) (m := m) (ls := [some (.ref x), some (.int y1), some (.ref o), none]) rfl rfl rfl rfl, dFu, q358_0, h, kI_r, hs, bd_s, q358_1]
  rfl
theorem w358_e1 {o : Nat} {y1 : Int32} (h : dN e 19 144 [.ref x, .int y1] m = some (.inr 1, m1)) : dN e 20 358 [.ref x, .int y1, .ref o] m = rI (Int32.ofNat 1) m1 := by
  show dN e (19 + 1) 358 _ _ = _
  have hj : ∀ n, hJ (dhd 358) (runL e (dN e 19) 358 (n + 1)) [some (.ref x), some (.int y1), some (.ref o), none] 1 m1 = rI (Int32.ofNat 1) m1 := fun n => rfl
  rw [dN_atT (j := 358) (as := [.ref x, .int y1, .ref o]) (m := m) (ls := [some (.ref x), some (.int y1), some (.ref o), none]) rfl rfl rfl rfl, dFu, q358_0, h, kI_h, hj]
  rfl
theorem w358_e2 {o : Nat} {y1 : Int32} (h : dN e 19 144 [.ref x, .int y1] m = some (.inr 2, m1)) : dN e 20 358 [.ref x, .int y1, .ref o] m = rI (Int32.ofNat 2) m1 := by
  show dN e (19 + 1) 358 _ _ = _
  have hj : ∀ n, hJ (dhd 358) (runL e (dN e 19) 358 (n + 1)) [some (.ref x), some (.int y1), some (.ref o), none] 2 m1 = rI (Int32.ofNat 2) m1 := fun n => rfl
  rw [dN_atT (j := 358) (as := [.ref x, .int y1, .ref o]) (m := m) (ls := [some (.ref x), some (.int y1), some (.ref o), none]) rfl rfl rfl rfl, dFu, q358_0, h, kI_h, hj]
  rfl
theorem w358_e3 {o : Nat} {y1 : Int32} (h : dN e 19 144 [.ref x, .int y1] m = some (.inr 3, m1)) : dN e 20 358 [.ref x, .int y1, .ref o] m = rI (Int32.ofNat 3) m1 := by
  show dN e (19 + 1) 358 _ _ = _
  have hj : ∀ n, hJ (dhd 358) (runL e (dN e 19) 358 (n + 1)) [some (.ref x), some (.int y1), some (.ref o), none] 3 m1 = rI (Int32.ofNat 3) m1 := fun n => rfl
  rw [dN_atT (j := 358) (as := [.ref x, .int y1, .ref o]) (m := m) (ls := [some (.ref x), some (.int y1), some (.ref o), none]) rfl rfl rfl rfl, dFu, q358_0, h, kI_h, hj]
  rfl
theorem w359_0 {o : Nat} (h : dN e 19 145 [.ref x] m = rI v m1) (hs : sL e m1 1 o (Int32.ofNat 0) v.toInt64 = some m2) : dN e 20 359 [.ref x, .ref o] m = rI (Int32.ofNat 0) m2 := by
  show dN e (19 + 1) 359 _ _ = _
  rw [dN_atT (j := 359) (as := [.ref x, .ref o]) (m := m) (ls := [some (.ref x), some (.ref o), none]) rfl rfl rfl rfl, dFu, q359_0, h, kI_r, hs, bd_s, q359_1]
  rfl
theorem w359_e1 {o : Nat} (h : dN e 19 145 [.ref x] m = some (.inr 1, m1)) : dN e 20 359 [.ref x, .ref o] m = rI (Int32.ofNat 1) m1 := by
  show dN e (19 + 1) 359 _ _ = _
  have hj : ∀ n, hJ (dhd 359) (runL e (dN e 19) 359 (n + 1)) [some (.ref x), some (.ref o), none] 1 m1 = rI (Int32.ofNat 1) m1 := fun n => rfl
  rw [dN_atT (j := 359) (as := [.ref x, .ref o]) (m := m) (ls := [some (.ref x), some (.ref o), none]) rfl rfl rfl rfl, dFu, q359_0, h, kI_h, hj]
  rfl
theorem w360_0 {o : Nat} {y1 y2 : Int32} (h : dN e 19 146 [.ref x, .int y1, .int y2] m = rI v m1) (hs : sL e m1 1 o (Int32.ofNat 0) v.toInt64 = some m2) : dN e 20 360 [.ref x, .int y1, .int y2, .ref o] m = rI (Int32.ofNat 0) m2 := by
  show dN e (19 + 1) 360 _ _ = _
  rw [dN_atT (j := 360) (as := [.ref x, .int y1, .int y2, .ref o]) (m := m) (ls := [some (.ref x), some (.int y1), some (.int y2), some (.ref o), none]) rfl rfl rfl rfl, dFu, q360_0, h, kI_r, hs, bd_s, q360_1]
  rfl
theorem w360_e1 {o : Nat} {y1 y2 : Int32} (h : dN e 19 146 [.ref x, .int y1, .int y2] m = some (.inr 1, m1)) : dN e 20 360 [.ref x, .int y1, .int y2, .ref o] m = rI (Int32.ofNat 1) m1 := by
  show dN e (19 + 1) 360 _ _ = _
  have hj : ∀ n, hJ (dhd 360) (runL e (dN e 19) 360 (n + 1)) [some (.ref x), some (.int y1), some (.int y2), some (.ref o), none] 1 m1 = rI (Int32.ofNat 1) m1 := fun n => rfl
  rw [dN_atT (j := 360) (as := [.ref x, .int y1, .int y2, .ref o]) (m := m) (ls := [some (.ref x), some (.int y1), some (.int y2), some (.ref o), none]) rfl rfl rfl rfl, dFu, q360_0, h, kI_h, hj]
  rfl
theorem w360_e2 {o : Nat} {y1 y2 : Int32} (h : dN e 19 146 [.ref x, .int y1, .int y2] m = some (.inr 2, m1)) : dN e 20 360 [.ref x, .int y1, .int y2, .ref o] m = rI (Int32.ofNat 2) m1 := by
  show dN e (19 + 1) 360 _ _ = _
  have hj : ∀ n, hJ (dhd 360) (runL e (dN e 19) 360 (n + 1)) [some (.ref x), some (.int y1), some (.int y2), some (.ref o), none] 2 m1 = rI (Int32.ofNat 2) m1 := fun n => rfl
  rw [dN_atT (j := 360) (as := [.ref x, .int y1, .int y2, .ref o]) (m := m) (ls := [some (.ref x), some (.int y1), some (.int y2), some (.ref o), none]) rfl rfl rfl rfl, dFu, q360_0, h, kI_h, hj]
  rfl
theorem w360_e3 {o : Nat} {y1 y2 : Int32} (h : dN e 19 146 [.ref x, .int y1, .int y2] m = some (.inr 3, m1)) : dN e 20 360 [.ref x, .int y1, .int y2, .ref o] m = rI (Int32.ofNat 3) m1 := by
  show dN e (19 + 1) 360 _ _ = _
  have hj : ∀ n, hJ (dhd 360) (runL e (dN e 19) 360 (n + 1)) [some (.ref x), some (.int y1), some (.int y2), some (.ref o), none] 3 m1 = rI (Int32.ofNat 3) m1 := fun n => rfl
  rw [dN_atT (j := 360) (as := [.ref x, .int y1, .int y2, .ref o]) (m := m) (ls := [some (.ref x), some (.int y1), some (.int y2), some (.ref o), none]) rfl rfl rfl rfl, dFu, q360_0, h, kI_h, hj]
  rfl
theorem w361_0 {o : Nat} (h : dN e 19 147 [.ref x] m = rI v m1) (hs : sL e m1 1 o (Int32.ofNat 0) v.toInt64 = some m2) : dN e 20 361 [.ref x, .ref o] m = rI (Int32.ofNat 0) m2 := by
  show dN e (19 + 1) 361 _ _ = _
  rw [dN_atT (j := 361) (as := [.ref x, .ref o]) (m := m) (ls := [some (.ref x), some (.ref o), none]) rfl rfl rfl rfl, dFu, q361_0, h, kI_r, hs, bd_s, q361_1]
  rfl
theorem w361_e1 {o : Nat} (h : dN e 19 147 [.ref x] m = some (.inr 1, m1)) : dN e 20 361 [.ref x, .ref o] m = rI (Int32.ofNat 1) m1 := by
  show dN e (19 + 1) 361 _ _ = _
  have hj : ∀ n, hJ (dhd 361) (runL e (dN e 19) 361 (n + 1)) [some (.ref x), some (.ref o), none] 1 m1 = rI (Int32.ofNat 1) m1 := fun n => rfl
  rw [dN_atT (j := 361) (as := [.ref x, .ref o]) (m := m) (ls := [some (.ref x), some (.ref o), none]) rfl rfl rfl rfl, dFu, q361_0, h, kI_h, hj]
  rfl
theorem w362_0 {o : Nat} (h : dN e 19 148 [.ref x] m = rI v m1) (hs : sL e m1 1 o (Int32.ofNat 0) v.toInt64 = some m2) : dN e 20 362 [.ref x, .ref o] m = rI (Int32.ofNat 0) m2 := by
  show dN e (19 + 1) 362 _ _ = _
  rw [dN_atT (j := 362) (as := [.ref x, .ref o]) (m := m) (ls := [some (.ref x), some (.ref o), none]) rfl rfl rfl rfl, dFu, q362_0, h, kI_r, hs, bd_s, q362_1]
  rfl
theorem w362_e1 {o : Nat} (h : dN e 19 148 [.ref x] m = some (.inr 1, m1)) : dN e 20 362 [.ref x, .ref o] m = rI (Int32.ofNat 1) m1 := by
  show dN e (19 + 1) 362 _ _ = _
  have hj : ∀ n, hJ (dhd 362) (runL e (dN e 19) 362 (n + 1)) [some (.ref x), some (.ref o), none] 1 m1 = rI (Int32.ofNat 1) m1 := fun n => rfl
  rw [dN_atT (j := 362) (as := [.ref x, .ref o]) (m := m) (ls := [some (.ref x), some (.ref o), none]) rfl rfl rfl rfl, dFu, q362_0, h, kI_h, hj]
  rfl
theorem w363_0 {o : Nat} {y1 : Int32} (h : dN e 19 150 [.ref x, .int y1] m = rI v m1) (hs : sL e m1 1 o (Int32.ofNat 0) v.toInt64 = some m2) : dN e 20 363 [.ref x, .int y1, .ref o] m = rI (Int32.ofNat 0) m2 := by
  show dN e (19 + 1) 363 _ _ = _
  rw [dN_atT (j := 363) (as := [.ref x, .int y1, .ref o]) (m := m) (ls := [some (.ref x), some (.int y1), some (.ref o), none]) rfl rfl rfl rfl, dFu, q363_0, h, kI_r, hs, bd_s, q363_1]
  rfl
theorem w363_e1 {o : Nat} {y1 : Int32} (h : dN e 19 150 [.ref x, .int y1] m = some (.inr 1, m1)) : dN e 20 363 [.ref x, .int y1, .ref o] m = rI (Int32.ofNat 1) m1 := by
  show dN e (19 + 1) 363 _ _ = _
  have hj : ∀ n, hJ (dhd 363) (runL e (dN e 19) 363 (n + 1)) [some (.ref x), some (.int y1), some (.ref o), none] 1 m1 = rI (Int32.ofNat 1) m1 := fun n => rfl
  rw [dN_atT (j := 363) (as := [.ref x, .int y1, .ref o]) (m := m) (ls := [some (.ref x), some (.int y1), some (.ref o), none]) rfl rfl rfl rfl, dFu, q363_0, h, kI_h, hj]
  rfl
theorem w363_e2 {o : Nat} {y1 : Int32} (h : dN e 19 150 [.ref x, .int y1] m = some (.inr 2, m1)) : dN e 20 363 [.ref x, .int y1, .ref o] m = rI (Int32.ofNat 2) m1 := by
  show dN e (19 + 1) 363 _ _ = _
  have hj : ∀ n, hJ (dhd 363) (runL e (dN e 19) 363 (n + 1)) [some (.ref x), some (.int y1), some (.ref o), none] 2 m1 = rI (Int32.ofNat 2) m1 := fun n => rfl
  rw [dN_atT (j := 363) (as := [.ref x, .int y1, .ref o]) (m := m) (ls := [some (.ref x), some (.int y1), some (.ref o), none]) rfl rfl rfl rfl, dFu, q363_0, h, kI_h, hj]
  rfl
theorem w364_0 {o : Nat} {y1 : Int32} (h : dN e 19 151 [.ref x, .int y1] m = rI v m1) (hs : sL e m1 1 o (Int32.ofNat 0) v.toInt64 = some m2) : dN e 20 364 [.ref x, .int y1, .ref o] m = rI (Int32.ofNat 0) m2 := by
  show dN e (19 + 1) 364 _ _ = _
  rw [dN_atT (j := 364) (as := [.ref x, .int y1, .ref o]) (m := m) (ls := [some (.ref x), some (.int y1), some (.ref o), none]) rfl rfl rfl rfl, dFu, q364_0, h, kI_r, hs, bd_s, q364_1]
  rfl
theorem w364_e2 {o : Nat} {y1 : Int32} (h : dN e 19 151 [.ref x, .int y1] m = some (.inr 2, m1)) : dN e 20 364 [.ref x, .int y1, .ref o] m = rI (Int32.ofNat 1) m1 := by
  show dN e (19 + 1) 364 _ _ = _
  have hj : ∀ n, hJ (dhd 364) (runL e (dN e 19) 364 (n + 1)) [some (.ref x), some (.int y1), some (.ref o), none] 2 m1 = rI (Int32.ofNat 1) m1 := fun n => rfl
  rw [dN_atT (j := 364) (as := [.ref x, .int y1, .ref o]) (m := m) (ls := [some (.ref x), some (.int y1), some (.ref o), none]) rfl rfl rfl rfl, dFu, q364_0, h, kI_h, hj]
  rfl
theorem w364_e1 {o : Nat} {y1 : Int32} (h : dN e 19 151 [.ref x, .int y1] m = some (.inr 1, m1)) : dN e 20 364 [.ref x, .int y1, .ref o] m = rI (Int32.ofNat 2) m1 := by
  show dN e (19 + 1) 364 _ _ = _
  have hj : ∀ n, hJ (dhd 364) (runL e (dN e 19) 364 (n + 1)) [some (.ref x), some (.int y1), some (.ref o), none] 1 m1 = rI (Int32.ofNat 2) m1 := fun n => rfl
  rw [dN_atT (j := 364) (as := [.ref x, .int y1, .ref o]) (m := m) (ls := [some (.ref x), some (.int y1), some (.ref o), none]) rfl rfl rfl rfl, dFu, q364_0, h, kI_h, hj]
  rfl
end
end

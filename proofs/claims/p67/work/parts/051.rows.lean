/-! ===== one row an access of the memory ===== -/
def dA (e : dEnv) : Nat → Prop := fun q => e.1 ≤ q
theorem gR_eq {m : dMem} {a c k q : Nat} (h : gR m a c k = some q) : ∃ f : Nat → Value, m.1 a = some (.inr (c, f)) ∧ f k = .ref q := by
  unfold gR at h
  split at h
  · rename_i c' f hm
    by_cases hc : c' = c
    · subst hc
      rw [if_pos rfl] at h
      split at h
      · rename_i x hx
        cases h
        exact ⟨f, hm, hx⟩
      · cases h
    · rw [if_neg hc] at h; cases h
  · cases h
theorem gI_eq {m : dMem} {a c k : Nat} {q : Int32} (h : gI m a c k = some q) : ∃ f : Nat → Value, m.1 a = some (.inr (c, f)) ∧ f k = .int q := by
  unfold gI at h
  split at h
  · rename_i c' f hm
    by_cases hc : c' = c
    · subst hc
      rw [if_pos rfl] at h
      split at h
      · rename_i x hx
        cases h
        exact ⟨f, hm, hx⟩
      · cases h
    · rw [if_neg hc] at h; cases h
  · cases h
theorem pV_eq {e : dEnv} {m m' : dMem} {a c k : Nat} {v : Value} (h : pV e m a c k v = some m') : ∃ f : Nat → Value, m.1 a = some (.inr (c, f)) ∧ e.1 ≤ a ∧ m' = dUp m a (.inr (c, fun j => if j = k then v else f j)) := by
  unfold pV at h
  split at h
  · rename_i c' f hm
    by_cases hc : c' = c ∧ e.1 ≤ a
    · obtain ⟨rfl, he⟩ := hc
      rw [if_pos ⟨rfl, he⟩] at h
      cases h
      exact ⟨f, hm, he, rfl⟩
    · rw [if_neg hc] at h; cases h
  · cases h
section RW
variable {p : Program} {l : Launch} {ee : Env} {R : Room} {s : State} {mth : MethodId} {args : Array Value} {below : List Frame} {meth : Method} {c : Code} {Q : State → Prop} {H : Heap} {locs : List Loc} {cells slots : Nat} {pc : Nat} {ls : Array Slot} {rest : List Value} {cc : ByteArray}
variable {e : dEnv} {D : va_G} {m : dMem}
theorem s_get (hcl : dClOk) (hx : p.tables.exec = Jvm.exec) (hb : c.code = cc) (hts : ∀ w ∈ dTb, w.before args s = true) {own : String} (hown : s.vm.findClass own = some mth.cls) (hK : va_K D dCl [] s) (hR : dRep D m s H)
    {idx ci k a : Nat} {v : Value} (hF : dFld own idx ci k) {f : Nat → Value} (hm : m.1 a = some (.inr (ci, f))) (hf : f k = v) (hdg : decode cc pc = .ok (.getfield idx, 3))
    (kk : W p l ee R s mth args below meth c H locs cells slots Q (F0 mth (pc + 3) ls (v :: rest))) : W p l ee R s mth args below meth c H locs cells slots Q (F0 mth pc ls (.ref a :: rest)) := by
  obtain ⟨r, hr, hk, hl, hg⟩ := hF
  obtain ⟨C, T, N⟩ := r
  obtain ⟨r', hr', hO⟩ := hR.2 a _ hm
  cases Option.some.inj (hr.symm.trans hr')
  obtain ⟨cell, q1, q2, q3, q4⟩ := hO
  obtain ⟨hin, -, -⟩ := hcl ci _ hr
  obtain ⟨hS1, hfc, kC, hkC, hkind⟩ := hK.1 ci _ hr
  obtain ⟨cf, kf, fi, fd, hi, hsl⟩ := hS1 k hk
  refine W.getf hx hb hown (hts _ (dTb_of hl hg)) hi (u_facts hfc hkC (u_lays hts hin hk) hi).1 q1 q3.2.1 (v := v) ?_ rfl rfl hdg kk
  rw [hsl, q4 k hk]
  exact congrArg some hf
/-- a field is written: the type's own values; a final one in its class's constructor alone -/
theorem s_put (hcl : dClOk) (hx : p.tables.exec = Jvm.exec) (hb : c.code = cc) (hts : ∀ w ∈ dTb, w.before args s = true) {own : String} (hown : s.vm.findClass own = some mth.cls) (hK : va_K D dCl [] s) (hR : dRep D m s H) (hS : va_S (dA e) s.heap H locs)
    {idx ci k a : Nat} {v : Value} (h100 : D.1 100 = e.1) (hF : dFld own idx ci k) (hfin : ∀ r : vw_C, dCl[ci]? = some r → (r.2.1 k).2.2.2 = true → meth.name = "<init>" ∧ (r.2.1 k).1 = own) {m' : dMem} (hm : pV e m a ci k v = some m')
    (hn : narrow (dTy ci k) v = v) (hfit : fits (dTy ci k) v = true) (hdg : decode cc pc = .ok (.putfield idx, 3))
    (kk : ∀ (H' : Heap) (locs' : List Loc), dRep D m' s H' → va_S (dA e) s.heap H' locs' → W p l ee R s mth args below meth c H' locs' cells slots Q (F0 mth (pc + 3) ls rest)) : W p l ee R s mth args below meth c H locs cells slots Q (F0 mth pc ls (v :: .ref a :: rest)) := by
  obtain ⟨f, hm1, hea, rfl⟩ := pV_eq hm
  obtain ⟨r, hr, hk, hl, hg⟩ := hF
  obtain ⟨C, T, N⟩ := r
  obtain ⟨r', hr', hO⟩ := hR.2 a _ hm1
  cases Option.some.inj (hr.symm.trans hr')
  obtain ⟨hin, hty, hnm⟩ := hcl ci _ hr
  have hap := va_apart (own := own) hts hin (dTy ci) hty hnm hK hr
  obtain ⟨cell, q1, q2, q3w, q4⟩ := hO
  have q3 := q3w.2.2 (Or.inr (by rw [h100]; exact hea))
  obtain ⟨hS1, hfc, kC, hkC, hkind⟩ := hK.1 ci _ hr
  obtain ⟨cf, kf, fi, fd, hi, hsl⟩ := hS1 k hk
  have hlay := hts _ (hin _ (u_in_lay hk))
  have hst := (u_facts hfc hkC (u_lays hts hin hk) hi).1
  have hlink := hts _ (dTb_of hl hg)
  have fin : ∀ H' : Heap, H'[a]? = some (cell.setSlot fd.slot v) → H'.size = H.size → (∀ q : Nat, q ≠ a → H'[q]? = H[q]?) → W p l ee R s mth args below meth c H' (locs ++ [⟨a, fd.slot⟩]) cells slots Q (F0 mth (pc + 3) ls rest) := by
    intro H' e1 e2 e3
    rw [hsl] at e1 ⊢
    refine kk H' _ (hR.up e2 e3 ⟨_, hr, _, e1, q2, q3w, fun j hj => ?_⟩) (hS.put e2 e3 hea)
    have := t_set q4 hap hk v j hj
    rw [this]
    rfl
  by_cases hf : (T k).2.2.2 = true
  · obtain ⟨hin2, hdecl⟩ := hfin _ hr hf
    have hlay2 := hlay
    unfold u_lay at hlay2
    rw [if_pos hf] at hlay2
    have hcf : mth.cls = cf := by
      obtain ⟨_, _, c', _, _, _, -, -, hf', -, -, -, hown2, -⟩ := Cond.laysFinal_spec hlay2
      have e1 : c' = cf := by have := hi.symm.trans hf'; simp at this; exact this.1.symm
      have hdecl' : (T k).1 = own := hdecl
      rw [hdecl'] at hown2
      rw [← e1]; exact Option.some.inj (hown.symm.trans hown2)
    have h6 := u_fits hfc hkC hkind (Or.inr hlay2) hi (hty k hk) hn hfit
    exact W.putFinK hx hb hown hlink hi hst hcf hin2 (by rw [q2]; exact h6) q1 q3 (by rw [hsl]; exact k2_hasslot (q4 k hk)) rfl rfl hdg fin
  · have hlay2 := hlay
    unfold u_lay at hlay2
    rw [if_neg hf] at hlay2
    have h6 := u_store hfc hkC hkind hlay2 hi (hty k hk) hn hfit
    exact W.putK hx hb (f := fd) ⟨hown, hlink, ⟨_, _, _, hi⟩, hst⟩ (by rw [q2]; exact h6) q1 q3 (by rw [hsl]; exact k2_hasslot (q4 k hk)) rfl rfl hdg fin
theorem s_getN (hcl : dClOk) (hx : p.tables.exec = Jvm.exec) (hb : c.code = cc) (hts : ∀ w ∈ dTb, w.before args s = true) (hNw : ∀ (a : String) (i : Nat) (b n d h : String), Cond.fieldLinkNest a i b n d h ∈ lw_tbl → va_Nw (.fieldLinkNest a i b n d h) s) {own : String} (hown : s.vm.findClass own = some mth.cls) (hK : va_K D dCl [] s) (hR : dRep D m s H)
    {idx ci k a : Nat} {v : Value} (hF : dFldN own idx ci k) {f : Nat → Value} (hm : m.1 a = some (.inr (ci, f))) (hf : f k = v) (hdg : decode cc pc = .ok (.getfield idx, 3))
    (kk : W p l ee R s mth args below meth c H locs cells slots Q (F0 mth (pc + 3) ls (v :: rest))) : W p l ee R s mth args below meth c H locs cells slots Q (F0 mth pc ls (.ref a :: rest)) := by
  obtain ⟨r, host, hr, hk, hl⟩ := hF
  obtain ⟨C, T, N⟩ := r
  obtain ⟨r', hr', hO⟩ := hR.2 a _ hm
  cases Option.some.inj (hr.symm.trans hr')
  obtain ⟨cell, q1, q2, q3, q4⟩ := hO
  obtain ⟨hin, -, -⟩ := hcl ci _ hr
  obtain ⟨hS1, hfc, kC, hkC, hkind⟩ := hK.1 ci _ hr
  obtain ⟨cf, kf, fi, fd, hi, hsl⟩ := hS1 k hk
  refine va_Wgetf hx hb hown (va_Nw.use rfl (hNw _ _ _ _ _ _ hl)) hi (u_facts hfc hkC (u_lays hts hin hk) hi).1 q1 q3.2.1 (v := v) ?_ rfl rfl hdg kk
  rw [hsl, q4 k hk]
  exact congrArg some hf
/-- a field is written: the type's own values; a final one in its class's constructor alone -/
theorem s_putN (hcl : dClOk) (hx : p.tables.exec = Jvm.exec) (hb : c.code = cc) (hts : ∀ w ∈ dTb, w.before args s = true) (hNw : ∀ (a : String) (i : Nat) (b n d h : String), Cond.fieldLinkNest a i b n d h ∈ lw_tbl → va_Nw (.fieldLinkNest a i b n d h) s) {own : String} (hown : s.vm.findClass own = some mth.cls) (hK : va_K D dCl [] s) (hR : dRep D m s H) (hS : va_S (dA e) s.heap H locs)
    {idx ci k a : Nat} {v : Value} (h100 : D.1 100 = e.1) (hF : dFldN own idx ci k) (hfin : ∀ r : vw_C, dCl[ci]? = some r → (r.2.1 k).2.2.2 = false) {m' : dMem} (hm : pV e m a ci k v = some m')
    (hn : narrow (dTy ci k) v = v) (hfit : fits (dTy ci k) v = true) (hdg : decode cc pc = .ok (.putfield idx, 3))
    (kk : ∀ (H' : Heap) (locs' : List Loc), dRep D m' s H' → va_S (dA e) s.heap H' locs' → W p l ee R s mth args below meth c H' locs' cells slots Q (F0 mth (pc + 3) ls rest)) : W p l ee R s mth args below meth c H locs cells slots Q (F0 mth pc ls (v :: .ref a :: rest)) := by
  obtain ⟨f, hm1, hea, rfl⟩ := pV_eq hm
  obtain ⟨r, host, hr, hk, hl⟩ := hF
  obtain ⟨C, T, N⟩ := r
  obtain ⟨r', hr', hO⟩ := hR.2 a _ hm1
  cases Option.some.inj (hr.symm.trans hr')
  obtain ⟨hin, hty, hnm⟩ := hcl ci _ hr
  have hap := va_apart (own := own) hts hin (dTy ci) hty hnm hK hr
  obtain ⟨cell, q1, q2, q3w, q4⟩ := hO
  have q3 := q3w.2.2 (Or.inr (by rw [h100]; exact hea))
  obtain ⟨hS1, hfc, kC, hkC, hkind⟩ := hK.1 ci _ hr
  obtain ⟨cf, kf, fi, fd, hi, hsl⟩ := hS1 k hk
  have hlay := hts _ (hin _ (u_in_lay hk))
  have hst := (u_facts hfc hkC (u_lays hts hin hk) hi).1
  have hlink : (Cond.fieldLinkNest _ _ _ _ _ _).before args s = true := va_Nw.use rfl (hNw _ _ _ _ _ _ hl)
  have fin : ∀ H' : Heap, H'[a]? = some (cell.setSlot fd.slot v) → H'.size = H.size → (∀ q : Nat, q ≠ a → H'[q]? = H[q]?) → W p l ee R s mth args below meth c H' (locs ++ [⟨a, fd.slot⟩]) cells slots Q (F0 mth (pc + 3) ls rest) := by
    intro H' e1 e2 e3
    rw [hsl] at e1 ⊢
    refine kk H' _ (hR.up e2 e3 ⟨_, hr, _, e1, q2, q3w, fun j hj => ?_⟩) (hS.put e2 e3 hea)
    have := t_set q4 hap hk v j hj
    rw [this]
    rfl
  have hf : ¬ (T k).2.2.2 = true := by have h9 := hfin _ hr; rw [show (T k).2.2.2 = false from h9]; decide
  have hlay2 := hlay
  unfold u_lay at hlay2
  rw [if_neg hf] at hlay2
  have h6 := u_store hfc hkC hkind hlay2 hi (hty k hk) hn hfit
  exact va_WputK hx hb (f := fd) hown hlink hi hst (by rw [q2]; exact h6) q1 q3 (by rw [hsl]; exact k2_hasslot (q4 k hk)) rfl rfl hdg fin
theorem dLtW {i : Int32} {n N : Nat} {P : Prop} (h : n ≤ N ∧ P) (h2 : i.toInt < n) : i.toInt < N := by
  have := h.1
  omega
theorem dSet {cell : Cell} {n i : Nat} {v w : Nat → Value} {x : Value} {P : Prop} (hs : n ≤ cell.slots.size ∧ P) (hv : ∀ j, j < n → cell.slots[j]? = some (v j)) (hw : ∀ j, j < n → w j = if j = i then x else v j) : ∀ j, j < n → (cell.setSlot i x).slots[j]? = some (w j) := by
  intro j hj
  rw [hw j hj]
  by_cases h : j = i
  · subst h
    rw [if_pos rfl]
    exact Cell.slots_setSlot_self _ (Nat.lt_of_lt_of_le hj hs.1)
  · rw [if_neg h, slot_ne _ _ (fun q => h q.symm), hv j hj]
theorem dSetSize {cell : Cell} {i : Nat} {x : Value} : (cell.setSlot i x).slots.size = cell.slots.size := by simp [Cell.setSlot]
theorem aI_eq {m : dMem} {kd a : Nat} {i x : Int32} (h : aI m kd a i = some x) : ∃ (n : Nat) (f : Nat → Int32), m.1 a = some (.inl (kd, n, .inl f)) ∧ 0 ≤ i.toInt ∧ i.toInt < n ∧ x = f i.toInt.toNat := by
  unfold aI at h
  split at h
  · rename_i k' n f hm
    by_cases hc : k' = kd ∧ 0 ≤ i.toInt ∧ i.toInt < n
    · rw [if_pos hc] at h
      obtain ⟨rfl, h1, h2⟩ := hc
      cases h
      exact ⟨n, f, hm, h1, h2, rfl⟩
    · rw [if_neg hc] at h; cases h
  · cases h
theorem aL_eq {m : dMem} {kd a : Nat} {i : Int32} {x : Int64} (h : aL m kd a i = some x) : ∃ (n : Nat) (f : Nat → Int64), m.1 a = some (.inl (kd, n, .inr (.inl f))) ∧ 0 ≤ i.toInt ∧ i.toInt < n ∧ x = f i.toInt.toNat := by
  unfold aL at h
  split at h
  · rename_i k' n f hm
    by_cases hc : k' = kd ∧ 0 ≤ i.toInt ∧ i.toInt < n
    · rw [if_pos hc] at h
      obtain ⟨rfl, h1, h2⟩ := hc
      cases h
      exact ⟨n, f, hm, h1, h2, rfl⟩
    · rw [if_neg hc] at h; cases h
  · cases h
theorem aD_eq {m : dMem} {kd a : Nat} {i : Int32} {x : UInt64} (h : aD m kd a i = some x) : ∃ (n : Nat) (f : Nat → UInt64), m.1 a = some (.inl (kd, n, .inr (.inr (.inl f)))) ∧ 0 ≤ i.toInt ∧ i.toInt < n ∧ x = f i.toInt.toNat := by
  unfold aD at h
  split at h
  · rename_i k' n f hm
    by_cases hc : k' = kd ∧ 0 ≤ i.toInt ∧ i.toInt < n
    · rw [if_pos hc] at h
      obtain ⟨rfl, h1, h2⟩ := hc
      cases h
      exact ⟨n, f, hm, h1, h2, rfl⟩
    · rw [if_neg hc] at h; cases h
  · cases h
theorem aR_eq {m : dMem} {kd a : Nat} {i : Int32} {x : Nat} (h : aR m kd a i = some x) : ∃ (n : Nat) (f : Nat → Option Nat), m.1 a = some (.inl (kd, n, .inr (.inr (.inr f)))) ∧ 0 ≤ i.toInt ∧ i.toInt < n ∧ f i.toInt.toNat = some x := by
  unfold aR at h
  split at h
  · rename_i k' n f hm
    by_cases hc : k' = kd ∧ 0 ≤ i.toInt ∧ i.toInt < n
    · rw [if_pos hc] at h
      obtain ⟨rfl, h1, h2⟩ := hc
      exact ⟨n, f, hm, h1, h2, h⟩
    · rw [if_neg hc] at h; cases h
  · cases h
theorem dClamp (i : Int32) : i.toNatClampNeg = i.toInt.toNat := rfl
theorem dLtN {i : Int32} {n : Nat} (h1 : 0 ≤ i.toInt) (h2 : i.toInt < n) : i.toInt.toNat < n := by omega
theorem s_aI (hx : p.tables.exec = Jvm.exec) (hb : c.code = cc) (hR : dRep D m s H) {a : Nat} {i x : Int32} (hm : aI m 0 a i = some x) (hdg : decode cc pc = .ok (.iaload, 1))
    (kk : W p l ee R s mth args below meth c H locs cells slots Q (F0 mth (pc + 1) ls (.int x :: rest))) : W p l ee R s mth args below meth c H locs cells slots Q (F0 mth pc ls (.int i :: .ref a :: rest)) := by
  obtain ⟨n, f, hm9, h1, h2, rfl⟩ := aI_eq hm
  obtain ⟨cell, g1, g2, g3, g4, g5, -⟩ := hR.2 a _ hm9
  exact W.iald hx hb g1 g2 g3 (dIdx h1 (dLtW g4 h2)) (g5 _ (dLtN h1 h2)) rfl rfl hdg kk
theorem s_aB (hx : p.tables.exec = Jvm.exec) (hb : c.code = cc) (hR : dRep D m s H) {a kd : Nat} (hkd : kd = 3 ∨ kd = 4) {i x : Int32} (hm : aI m kd a i = some x) (hdg : decode cc pc = .ok (.baload, 1))
    (kk : W p l ee R s mth args below meth c H locs cells slots Q (F0 mth (pc + 1) ls (.int x :: rest))) : W p l ee R s mth args below meth c H locs cells slots Q (F0 mth pc ls (.int i :: .ref a :: rest)) := by
  obtain ⟨n, f, hm9, h1, h2, rfl⟩ := aI_eq hm
  obtain ⟨cell, g1, g2, g3, g4, g5, -⟩ := hR.2 a _ hm9
  rcases hkd with rfl | rfl
  · exact W.bald hx hb g1 g2 g3 (dIdx h1 (dLtW g4 h2)) (g5 _ (dLtN h1 h2)) rfl rfl hdg kk
  · exact W.zald hx hb g1 g2 g3 (dIdx h1 (dLtW g4 h2)) (g5 _ (dLtN h1 h2)) rfl rfl hdg kk
theorem s_aL (hx : p.tables.exec = Jvm.exec) (hb : c.code = cc) (hR : dRep D m s H) {a : Nat} {i : Int32} {x : Int64} (hm : aL m 1 a i = some x) (hdg : decode cc pc = .ok (.laload, 1))
    (kk : W p l ee R s mth args below meth c H locs cells slots Q (F0 mth (pc + 1) ls (.long x :: rest))) : W p l ee R s mth args below meth c H locs cells slots Q (F0 mth pc ls (.int i :: .ref a :: rest)) := by
  obtain ⟨n, f, hm9, h1, h2, rfl⟩ := aL_eq hm
  obtain ⟨cell, g1, g2, g3, g4, g5, -⟩ := hR.2 a _ hm9
  exact W.lald hx hb g1 g2 g3 (dIdx h1 (dLtW g4 h2)) (g5 _ (dLtN h1 h2)) rfl rfl hdg kk
theorem s_aD (hx : p.tables.exec = Jvm.exec) (hb : c.code = cc) (hR : dRep D m s H) {a : Nat} {i : Int32} {x : UInt64} (hm : aD m 2 a i = some x) (hdg : decode cc pc = .ok (.daload, 1))
    (kk : W p l ee R s mth args below meth c H locs cells slots Q (F0 mth (pc + 1) ls (.double x :: rest))) : W p l ee R s mth args below meth c H locs cells slots Q (F0 mth pc ls (.int i :: .ref a :: rest)) := by
  obtain ⟨n, f, hm9, h1, h2, rfl⟩ := aD_eq hm
  obtain ⟨cell, g1, g2, g3, g4, g5, -⟩ := hR.2 a _ hm9
  exact W.dald hx hb g1 g2 g3 (dIdx h1 (dLtW g4 h2)) (g5 _ (dLtN h1 h2)) rfl rfl hdg kk
theorem s_aR (hx : p.tables.exec = Jvm.exec) (hb : c.code = cc) (hR : dRep D m s H) {a kd : Nat} (hkd : kd = 5 ∨ kd = 6) {i : Int32} {x : Nat} (hm : aR m kd a i = some x) (hdg : decode cc pc = .ok (.aaload, 1))
    (kk : W p l ee R s mth args below meth c H locs cells slots Q (F0 mth (pc + 1) ls (.ref x :: rest))) : W p l ee R s mth args below meth c H locs cells slots Q (F0 mth pc ls (.int i :: .ref a :: rest)) := by
  obtain ⟨n, f, hm9, h1, h2, h3⟩ := aR_eq hm
  obtain ⟨cell, g1, g2, g3, g4, g5, -⟩ := hR.2 a _ hm9
  have h5 := g5 _ (dLtN h1 h2)
  simp only [dvl, h3, va_rf] at h5
  exact W.aald hx hb g1 g2 (by rcases hkd with rfl | rfl <;> rfl) g3 (dIdx h1 (dLtW g4 h2)) h5 rfl rfl hdg kk
theorem s_aN (hx : p.tables.exec = Jvm.exec) (hb : c.code = cc) (hR : dRep D m s H) {a : Nat} {x : Int32} (hm : aN m a = some x) (hdg : decode cc pc = .ok (.arraylength, 1))
    (kk : W p l ee R s mth args below meth c H locs cells slots Q (F0 mth (pc + 1) ls (.int x :: rest))) : W p l ee R s mth args below meth c H locs cells slots Q (F0 mth pc ls (.ref a :: rest)) := by
  unfold aN at hm
  split at hm
  · rename_i k n d hm2
    cases hm
    obtain ⟨cell, g1, g2, g3, g4, g5, -⟩ := hR.2 a _ hm2
    exact W.alen hx hb g1 g2 g4.2 rfl rfl hdg kk
  · cases hm
theorem dNarB (x : Int32) : narrow .byte (.int x) = .int (cvI 3 x) := rfl
theorem dNarZ (x : Int32) : narrow .boolean (.int x) = .int (cvI 4 x) := rfl
theorem s_sI (hx : p.tables.exec = Jvm.exec) (hb : c.code = cc) (hR : dRep D m s H) (hS : va_S (dA e) s.heap H locs) {a : Nat} {i x : Int32} {m' : dMem} (hm : sI e m 0 a i x = some m') (hdg : decode cc pc = .ok (.iastore, 1))
    (kk : ∀ (H' : Heap) (locs' : List Loc), dRep D m' s H' → va_S (dA e) s.heap H' locs' → W p l ee R s mth args below meth c H' locs' cells slots Q (F0 mth (pc + 1) ls rest)) : W p l ee R s mth args below meth c H locs cells slots Q (F0 mth pc ls (.int x :: .int i :: .ref a :: rest)) := by
  unfold sI at hm
  split at hm
  · rename_i k' n f hm2
    by_cases hc : k' = 0 ∧ e.1 ≤ a ∧ 0 ≤ i.toInt ∧ i.toInt < n
    · rw [if_pos hc] at hm
      obtain ⟨rfl, he, h1, h2⟩ := hc
      cases hm
      obtain ⟨cell, g1, g2, g3, g4, g5, g6, g7, g8, g9⟩ := hR.2 a _ hm2
      refine W.iast hx hb g1 g2 g3 (dIdx h1 (dLtW g4 h2)) rfl rfl hdg fun H' e1 e2 e3 => ?_
      refine kk H' _ (hR.up e2 e3 ⟨_, e1, g2, g3, by rw [dSetSize]; exact g4, ?_, g6, (fun g hg j hj => by cases hg; simp only [dFun]; split; exact cvI_idem _ _; exact g7 f rfl j hj), g8, fun h z => ⟨(g9 h z).1, by rw [dSetSize]; exact (g9 h z).2.1, (g9 h z).2.2⟩⟩) (hS.put e2 e3 he)
      refine dSet g4 g5 (fun j _ => ?_)
      simp only [dvl, dFun, dClamp, cvI]
      split <;> rfl
    · rw [if_neg hc] at hm; cases hm
  · cases hm
theorem s_sB (hx : p.tables.exec = Jvm.exec) (hb : c.code = cc) (hR : dRep D m s H) (hS : va_S (dA e) s.heap H locs) {a kd : Nat} (hkd : kd = 3 ∨ kd = 4) {i x : Int32} {m' : dMem} (hm : sI e m kd a i x = some m') (hdg : decode cc pc = .ok (.bastore, 1))
    (kk : ∀ (H' : Heap) (locs' : List Loc), dRep D m' s H' → va_S (dA e) s.heap H' locs' → W p l ee R s mth args below meth c H' locs' cells slots Q (F0 mth (pc + 1) ls rest)) : W p l ee R s mth args below meth c H locs cells slots Q (F0 mth pc ls (.int x :: .int i :: .ref a :: rest)) := by
  unfold sI at hm
  split at hm
  · rename_i k' n f hm2
    by_cases hc : k' = kd ∧ e.1 ≤ a ∧ 0 ≤ i.toInt ∧ i.toInt < n
    · rw [if_pos hc] at hm
      obtain ⟨rfl, he, h1, h2⟩ := hc
      cases hm
      obtain ⟨cell, g1, g2, g3, g4, g5, g6, g7, g8, g9⟩ := hR.2 a _ hm2
      rcases hkd with rfl | rfl
      · refine W.bast hx hb g1 g2 g3 (dIdx h1 (dLtW g4 h2)) rfl rfl hdg fun H' e1 e2 e3 => ?_
        refine kk H' _ (hR.up e2 e3 ⟨_, e1, g2, g3, by rw [dSetSize]; exact g4, ?_, g6, (fun g hg j hj => by cases hg; simp only [dFun]; split; exact cvI_idem _ _; exact g7 f rfl j hj), g8, fun h z => ⟨(g9 h z).1, by rw [dSetSize]; exact (g9 h z).2.1, (g9 h z).2.2⟩⟩) (hS.put e2 e3 he)
        refine dSet g4 g5 (fun j _ => ?_)
        rw [dNarB]
        simp only [dvl, dFun, dClamp]
        split <;> rfl
      · refine W.zast hx hb g1 g2 g3 (dIdx h1 (dLtW g4 h2)) rfl rfl hdg fun H' e1 e2 e3 => ?_
        refine kk H' _ (hR.up e2 e3 ⟨_, e1, g2, g3, by rw [dSetSize]; exact g4, ?_, g6, (fun g hg j hj => by cases hg; simp only [dFun]; split; exact cvI_idem _ _; exact g7 f rfl j hj), g8, fun h z => ⟨(g9 h z).1, by rw [dSetSize]; exact (g9 h z).2.1, (g9 h z).2.2⟩⟩) (hS.put e2 e3 he)
        refine dSet g4 g5 (fun j _ => ?_)
        rw [dNarZ]
        simp only [dvl, dFun, dClamp]
        split <;> rfl
    · rw [if_neg hc] at hm; cases hm
  · cases hm
theorem s_sL (hx : p.tables.exec = Jvm.exec) (hb : c.code = cc) (hR : dRep D m s H) (hS : va_S (dA e) s.heap H locs) {a : Nat} {i : Int32} {x : Int64} {m' : dMem} (hm : sL e m 1 a i x = some m') (hdg : decode cc pc = .ok (.lastore, 1))
    (kk : ∀ (H' : Heap) (locs' : List Loc), dRep D m' s H' → va_S (dA e) s.heap H' locs' → W p l ee R s mth args below meth c H' locs' cells slots Q (F0 mth (pc + 1) ls rest)) : W p l ee R s mth args below meth c H locs cells slots Q (F0 mth pc ls (.long x :: .int i :: .ref a :: rest)) := by
  unfold sL at hm
  split at hm
  · rename_i k' n f hm2
    by_cases hc : k' = 1 ∧ e.1 ≤ a ∧ 0 ≤ i.toInt ∧ i.toInt < n
    · rw [if_pos hc] at hm
      obtain ⟨rfl, he, h1, h2⟩ := hc
      cases hm
      obtain ⟨cell, g1, g2, g3, g4, g5, g6, g7, g8, g9⟩ := hR.2 a _ hm2
      refine W.last hx hb g1 g2 g3 (dIdx h1 (dLtW g4 h2)) rfl rfl hdg fun H' e1 e2 e3 => ?_
      refine kk H' _ (hR.up e2 e3 ⟨_, e1, g2, g3, by rw [dSetSize]; exact g4, ?_, g6, (fun g hg => by cases hg), g8, fun h z => ⟨(g9 h z).1, by rw [dSetSize]; exact (g9 h z).2.1, (g9 h z).2.2⟩⟩) (hS.put e2 e3 he)
      refine dSet g4 g5 (fun j _ => ?_)
      simp only [dvl, dFun, dClamp]
      split <;> rfl
    · rw [if_neg hc] at hm; cases hm
  · cases hm
theorem s_sD (hx : p.tables.exec = Jvm.exec) (hb : c.code = cc) (hR : dRep D m s H) (hS : va_S (dA e) s.heap H locs) {a : Nat} {i : Int32} {x : UInt64} {m' : dMem} (hm : sD e m 2 a i x = some m') (hdg : decode cc pc = .ok (.dastore, 1))
    (kk : ∀ (H' : Heap) (locs' : List Loc), dRep D m' s H' → va_S (dA e) s.heap H' locs' → W p l ee R s mth args below meth c H' locs' cells slots Q (F0 mth (pc + 1) ls rest)) : W p l ee R s mth args below meth c H locs cells slots Q (F0 mth pc ls (.double x :: .int i :: .ref a :: rest)) := by
  unfold sD at hm
  split at hm
  · rename_i k' n f hm2
    by_cases hc : k' = 2 ∧ e.1 ≤ a ∧ 0 ≤ i.toInt ∧ i.toInt < n
    · rw [if_pos hc] at hm
      obtain ⟨rfl, he, h1, h2⟩ := hc
      cases hm
      obtain ⟨cell, g1, g2, g3, g4, g5, g6, g7, g8, g9⟩ := hR.2 a _ hm2
      refine W.dast hx hb g1 g2 g3 (dIdx h1 (dLtW g4 h2)) rfl rfl hdg fun H' e1 e2 e3 => ?_
      refine kk H' _ (hR.up e2 e3 ⟨_, e1, g2, g3, by rw [dSetSize]; exact g4, ?_, g6, (fun g hg => by cases hg), g8, fun h z => ⟨(g9 h z).1, by rw [dSetSize]; exact (g9 h z).2.1, (g9 h z).2.2⟩⟩) (hS.put e2 e3 he)
      refine dSet g4 g5 (fun j _ => ?_)
      simp only [dvl, dFun, dClamp]
      split <;> rfl
    · rw [if_neg hc] at hm; cases hm
  · cases hm
theorem isC_eq {m : dMem} {a ci : Nat} (h : isC m a ci = true) : ∃ f : Nat → Value, m.1 a = some (.inr (ci, f)) := by
  unfold isC at h
  split at h
  · rename_i c' f hm
    exact ⟨f, by rw [hm, Nat.eq_of_beq_eq_true h]⟩
  · cases h
theorem s_sR (hx : p.tables.exec = Jvm.exec) (hb : c.code = cc) (hK : va_K D dCl [] s) (hR : dRep D m s H) (hS : va_S (dA e) s.heap H locs) {a x : Nat} {i : Int32} {m' : dMem} (hm : sR e m 5 a i x 2 = some m') (hdg : decode cc pc = .ok (.aastore, 1))
    (kk : ∀ (H' : Heap) (locs' : List Loc), dRep D m' s H' → va_S (dA e) s.heap H' locs' → W p l ee R s mth args below meth c H' locs' cells slots Q (F0 mth (pc + 1) ls rest)) : W p l ee R s mth args below meth c H locs cells slots Q (F0 mth pc ls (.ref x :: .int i :: .ref a :: rest)) := by
  unfold sR at hm
  split at hm
  · rename_i k' n f hm2
    by_cases hc : k' = 5 ∧ e.1 ≤ a ∧ 0 ≤ i.toInt ∧ i.toInt < n ∧ isC m x 2 = true
    · rw [if_pos hc] at hm
      obtain ⟨rfl, he, h1, h2, hq⟩ := hc
      obtain ⟨fx, hxm⟩ := isC_eq hq
      cases hm
      obtain ⟨cell, g1, g2, g3, g4, g5, g6, g7, g8, g9⟩ := hR.2 a _ hm2
      obtain ⟨r, hr, cx, x1, x2, x3, -⟩ := hR.2 x _ hxm
      have hcls := (hK.1 2 _ hr).2
      obtain ⟨kA, a1, a2⟩ := g6 rfl
      obtain ⟨kC, hkC, hkd⟩ := hcls.2
      refine W.aast hx hb g1 g2.1 g3 a1 a2 rfl hkC ⟨fun q => dIdx h1 h2 (Or.inl q), by rw [dClamp]; exact Nat.lt_of_lt_of_le (dLtN h1 h2) g4.1⟩ x1 (fun q h => by have x4 := x3.1; rw [h] at x4; cases x4) (by rw [x2]; exact hkC) (by rw [x2]; exact va_assign hcls) rfl rfl hdg fun H' e1 e2 e3 => ?_
      refine kk H' _ (hR.up e2 e3 ⟨_, e1, g2, g3, by rw [dSetSize]; exact g4, ?_, g6, (fun g hg => by cases hg), g8, fun h z => ⟨(g9 h z).1, by rw [dSetSize]; exact (g9 h z).2.1, (g9 h z).2.2⟩⟩) (hS.put e2 e3 he)
      refine dSet g4 g5 (fun j _ => ?_)
      simp only [dvl, dFun, dClamp]
      split <;> rfl
    · rw [if_neg hc] at hm; cases hm
  · cases hm
theorem s_sR6 (hx : p.tables.exec = Jvm.exec) (hb : c.code = cc) (hK : va_K D dCl [] s) (hR : dRep D m s H) (hS : va_S (dA e) s.heap H locs) {a x : Nat} {i : Int32} {m' : dMem} (hm : sR e m 6 a i x 10 = some m') (hdg : decode cc pc = .ok (.aastore, 1))
    (kk : ∀ (H' : Heap) (locs' : List Loc), dRep D m' s H' → va_S (dA e) s.heap H' locs' → W p l ee R s mth args below meth c H' locs' cells slots Q (F0 mth (pc + 1) ls rest)) : W p l ee R s mth args below meth c H locs cells slots Q (F0 mth pc ls (.ref x :: .int i :: .ref a :: rest)) := by
  unfold sR at hm
  split at hm
  · rename_i k' n f hm2
    by_cases hc : k' = 6 ∧ e.1 ≤ a ∧ 0 ≤ i.toInt ∧ i.toInt < n ∧ isC m x 10 = true
    · rw [if_pos hc] at hm
      obtain ⟨rfl, he, h1, h2, hq⟩ := hc
      obtain ⟨fx, hxm⟩ := isC_eq hq
      cases hm
      obtain ⟨cell, g1, g2, g3, g4, g5, g6, g7, g8, g9⟩ := hR.2 a _ hm2
      obtain ⟨r, hr, cx, x1, x2, x3, -⟩ := hR.2 x _ hxm
      have hcls := (hK.1 10 _ hr).2
      obtain ⟨kA, a1, a2⟩ := g8 rfl
      obtain ⟨kC, hkC, hkd⟩ := hcls.2
      refine W.aast hx hb g1 g2.1 g3 a1 a2 rfl hkC ⟨fun q => dIdx h1 h2 (Or.inl q), by rw [dClamp]; exact Nat.lt_of_lt_of_le (dLtN h1 h2) g4.1⟩ x1 (fun q h => by have x4 := x3.1; rw [h] at x4; cases x4) (by rw [x2]; exact hkC) (by rw [x2]; exact va_assign hcls) rfl rfl hdg fun H' e1 e2 e3 => ?_
      refine kk H' _ (hR.up e2 e3 ⟨_, e1, g2, g3, by rw [dSetSize]; exact g4, ?_, g6, (fun g hg => by cases hg), g8, fun h z => ⟨(g9 h z).1, by rw [dSetSize]; exact (g9 h z).2.1, (g9 h z).2.2⟩⟩) (hS.put e2 e3 he)
      refine dSet g4 g5 (fun j _ => ?_)
      simp only [dvl, dFun, dClamp]
      split <;> rfl
    · rw [if_neg hc] at hm; cases hm
  · cases hm
end RW

/-! ===== every method's contract, out of the interpreter's answer ===== -/
noncomputable section
theorem lgs_len : ∀ as : List Value, (lg_sl as).length = dSum as
  | [] => rfl
  | v :: t => by
    have h := lgs_len t
    have e : lg_sl (v :: t) = (if v.category = 2 then [.val v, .second] else [.val v]) ++ lg_sl t := by simp [lg_sl]
    rw [e, List.length_append, h]
    cases v <;> rfl
theorem entL_pad {as : List Value} {n i : Nat} {v : Value} (h : (entL as ++ List.replicate n none)[i]? = some (some v)) : (entL as)[i]? = some (some v) := by
  by_cases hi : i < (entL as).length
  · rwa [List.getElem?_append_left hi] at h
  · rw [List.getElem?_append_right (by omega), List.getElem?_replicate] at h
    split at h <;> simp at h
theorem dHas_entry {as : List Value} {n k : Nat} (h : dSum as ≤ n) : dHas ((lg_sl as ++ List.replicate (n - (lg_sl as).length) Slot.unset).toArray) n (entL as ++ List.replicate k none) := by
  refine dHas.of (lv_entry as (by rw [lgs_len]; exact h)) (fun i v hi => ?_)
  have := entL_get as 0 i v (entL_pad hi)
  rwa [Nat.zero_add] at this
theorem dOwn_all : (List.range 406).all (fun j => decide ((dY j).cls = dOwn (dOn j)) && (dTr j || (dHh j).isEmpty)) = true := by decide +kernel
theorem dOwn_eq {j : Nat} (h : j < dNM) : (dY j).cls = dOwn (dOn j) ∧ (dTr j = false → dHh j = []) := by
  have h9 := List.all_eq_true.mp dOwn_all j (List.mem_range.mpr h)
  simp only [Bool.and_eq_true, decide_eq_true_eq, Bool.or_eq_true] at h9
  refine ⟨h9.1, fun q => ?_⟩
  rcases h9.2 with z | z
  · rw [q] at z; cases z
  · exact List.isEmpty_iff.mp z
theorem Met_ofWH {l : Launch} {y : MethodName} {ws ws' : List Cond} {rm : Room} {Pc : Array Value → State → Prop} {Qc : Array Value → State → Outcome → State → Prop} {mc ms : Nat} {free : Addr → Prop} {cc : ByteArray} {maxL : Nat} {ret : Option FieldType} {hh : List (Nat × Nat × Nat × Nat)}
    (hy : plainName y.cls = true) (hw : ws = Cond.codeWith y cc maxL ret hh :: ws')
    (body : ∀ p e s m args below meth c s₁, BodyLoose p l y (headSpec ws rm) cc maxL ret e s m args below meth c s₁ → c.maxLocals = maxL → Pc args s →
      W p l e (headSpec ws rm).room s m args below meth c s.heap [] 0 0 (MQ below Qc args s mc ms free) (entryFrame m args maxL)) : Met l y ws rm Pc Qc mc ms free := by
  refine MetFree.of_bodyS (code := cc) (maxLocals := maxL) (ret := ret) hy ?_ ?_
  · intro args s m h hn
    obtain ⟨m9, meth, c, hn9, h1, h2, h3, h4, -, h5, h6, -⟩ := Cond.codeWith_spec (atoms_spec (ws := ws) h _ (by rw [hw]; exact List.mem_cons_self))
    cases hn.symm.trans hn9
    exact ⟨meth, c, h1, h2, h3, h4, h5, h6⟩
  · intro p e s m args below meth c s₁ B hml hP _
    have hh0 : s₁.heap = s.heap := by rw [B.state]; rfl
    obtain ⟨t, a1, o, b1, b2, b3⟩ := body p e s m args below meth c s₁ B hml hP s₁ hh0 (Stand.of_body B)
    exact ⟨t, o, a1, b1, b2, ⟨b3.1, b3.2⟩⟩
theorem runL_mono {e : dEnv} {cl : Nat → List Value → dMem → Option dRes} {j : Nat} (hcl : ∀ j as m o m', cl j as m = some (o, m') → dLe m m') : ∀ (n lbl : Nat) (ls : dLs) (st : List Value) (m : dMem) (o : Option Value ⊕ Nat) (m' : dMem), runL e cl j n lbl ls st m = some (o, m') → dLe m m' := by
  intro n
  induction n with
  | zero => intro lbl ls st m o m' h; cases h
  | succ n ih =>
    intro lbl ls st m o m' h
    unfold runL at h
    cases hb : Nat.ble (dNL j) lbl with
    | true => rw [hb] at h; cases h
    | false =>
      rw [hb] at h
      exact dx_mono hcl ih _ _ _ _ _ _ h
/-- a call of a method: depth, number, arguments -/
def dN (e : dEnv) : Nat → Nat → List Value → dMem → Option dRes
  | 0, _, _, _ => none
  | d + 1, j, as, m => bif dRecv j as m && Nat.ble (dSum as) (dMl j) then dFin (dTr j) (runL e (dN e d) j dFuel 0 (entL as ++ List.replicate (dPad j) none) [] m) else none
theorem dFin_eq {t : Bool} {r : Option dRes} {o : Option Value ⊕ Nat} {m : dMem} (h : dFin t r = some (o, m)) : r = some (o, m) ∧ (t = true → ∃ v, o = .inl v) := by
  unfold dFin at h
  cases t with
  | false => exact ⟨h, fun q => by cases q⟩
  | true =>
    simp only [cond_true] at h
    split at h
    · cases h; exact ⟨rfl, fun _ => ⟨_, rfl⟩⟩
    · cases h
theorem dN_inv {e : dEnv} {d j : Nat} {as : List Value} {m m' : dMem} {o : Option Value ⊕ Nat} (h : dN e (d + 1) j as m = some (o, m')) :
    dRecv j as m = true ∧ dSum as ≤ dMl j ∧ runL e (dN e d) j dFuel 0 (entL as ++ List.replicate (dPad j) none) [] m = some (o, m') ∧ (dTr j = true → ∃ v, o = .inl v) := by
  unfold dN at h
  cases hb : (dRecv j as m && Nat.ble (dSum as) (dMl j)) with
  | false => rw [hb] at h; cases h
  | true =>
    rw [hb] at h
    simp only [cond_true] at h
    obtain ⟨h1, h2⟩ := dFin_eq h
    obtain ⟨h3, h4⟩ := ok2 hb
    exact ⟨h3, Nat.le_of_ble_eq_true h4, h1, h2⟩
theorem dN_mono {e : dEnv} : ∀ (d j : Nat) (as : List Value) (m : dMem) (o : Option Value ⊕ Nat) (m' : dMem), dN e d j as m = some (o, m') → dLe m m' := by
  intro d
  induction d with
  | zero => intro j as m o m' h; cases h
  | succ d ih =>
    intro j as m o m' h
    exact runL_mono ih _ _ _ _ _ _ _ (dN_inv h).2.2.1
section END2
variable {p : Program} {l : Launch} {ee : Env} {R : Room} {s : State} {mth : MethodId} {args : Array Value} {below : List Frame} {meth : Method} {c : Code} {Q : State → Prop} {H : Heap} {locs : List Loc} {cells slots : Nat}
variable {e : dEnv} {D : va_G} {d j : Nat}
/-- labels: the walk of a whole method -/
theorem runL_ok (C : dEv p l R s mth args meth c e D d j) {o : Option Value ⊕ Nat} {mF : dMem} {m0s : Nat} (hj : j < dNM)
    (hRc : mF.2.1 - s.heap.size ≤ R.cells) (hRs : mF.2.2 - m0s ≤ R.slots)
    (hcl : ∀ j' as m o' m', dN e d j' as m = some (o', m') → j' < dNM → j' ≠ dLaw → CallOK l e D d j' as m o' m')
    (hret : ∀ (v : Option Value) (pc : Nat) (H : Heap) (locs : List Loc) (lsM : Array Slot), o = .inl v → dRetOK j v pc → dRep D mF s H → va_S (dA e) s.heap H locs → W p l ee R s mth args below meth c H locs (mF.2.1 - s.heap.size) (mF.2.2 - m0s) Q (F0 mth pc lsM v.toList))
    (hnew : dTr j = false → ∀ (E pc ik is ic : Nat) (m : dMem) (H : Heap) (locs : List Loc) (lsM : Array Slot), o = .inr E → mF = (m.1, m.2.1 + 1, m.2.2 + 6) → okX j pc (.new ik) E 0 is ic = true → decode (dBy j) pc = .ok (.new ik, 3) → dRep D m s H → va_S (dA e) s.heap H locs → m0s ≤ m.2.2 → lsM.size = c.maxLocals → W p l ee R s mth args below meth c H locs (m.2.1 - s.heap.size) (m.2.2 - m0s) Q (F0 mth pc lsM []))
    (hthr : dTr j = false → ∀ (E pc : Nat) (H : Heap) (locs : List Loc) (lsM : Array Slot) (rest : List Value) (q : Addr) (ce : Cell), o = .inr E → dRep D mF s H → va_S (dA e) s.heap H locs → H[q]? = some ce → ce.vm = .none → s.vm.findClass (dEx E) = some ce.cls → vx_W p l ee R s mth args below meth c H locs (mF.2.1 - s.heap.size) (mF.2.2 - m0s) Q (F0 mth pc lsM rest) q)
    (htr : dTr j = true → ∃ v, o = .inl v) :
    ∀ (n lbl : Nat) (ls : dLs) (st : List Value) (m : dMem) (H : Heap) (locs : List Loc) (lsM : Array Slot), runL e (dN e d) j n lbl ls st m = some (o, mF) → dRep D m s H → va_S (dA e) s.heap H locs → m0s ≤ m.2.2 → dHas lsM (dMl j) ls →
      W p l ee R s mth args below meth c H locs (m.2.1 - s.heap.size) (m.2.2 - m0s) Q (F0 mth (dpc j lbl) lsM st) := by
  intro n
  induction n with
  | zero => intro lbl ls st m H locs lsM h; cases h
  | succ n ih =>
    intro lbl ls st m H locs lsM h hR hS hm0 hL
    unfold runL at h
    cases hb : Nat.ble (dNL j) lbl with
    | true => rw [hb] at h; cases h
    | false =>
      rw [hb] at h
      simp only [cond_false] at h
      have hlt : lbl < dNL j := by
        rcases Nat.lt_or_ge lbl (dNL j) with z | z
        · exact z
        · rw [Nat.ble_eq_true_of_le z] at hb; cases hb
      exact dx_snd C hRc hRs (dN_mono d) (runL_mono (dN_mono d) n) hcl ih hret hnew hthr htr (dcode j lbl) (dpc j lbl) ls st m H locs lsM h (List.all_eq_true.mp (okM_all j hj) lbl (List.mem_range.mpr hlt)) hR hS hm0 hL
end END2
end

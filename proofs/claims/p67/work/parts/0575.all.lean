/-! ===== the contracts of all methods ===== -/
noncomputable section
section ALL
variable {p : Program} {l : Launch} {ee : Env} {R : Room} {s : State} {mth : MethodId} {args : Array Value} {below : List Frame} {meth : Method} {c : Code} {H : Heap} {locs : List Loc} {cells slots : Nat}
variable {e : dEnv} {D : va_G} {d j : Nat}
theorem dQ_of {v : Option Value} {mF : dMem} {a : Array Value} {t : State} (hR : dRep D mF s H) (hS : va_S (dA e) s.heap H locs) (ht : t.heap = H) (hW : s.WarmedH t.vm) : dQc e D (.inl v) mF a s (.returned v) t :=
  ⟨⟨v, rfl, rfl⟩, by rw [ht]; exact hR.moved hW.alike, hS.F ht⟩
/-- it goes back with a value -/
theorem s_ret (C : dEv p l R s mth args meth c e D d j) {v : Option Value} {pc : Nat} {mF : dMem} {lsM : Array Slot} (hv : dRetOK j v pc) (hR : dRep D mF s H) (hS : va_S (dA e) s.heap H locs) :
    W p l ee R s mth args below meth c H locs cells slots (MQ below (dQc e D (.inl v) mF) args s cells slots (dA e)) (F0 mth pc lsM v.toList) := by
  obtain ⟨hx, hb, hml, hown, hlk, hts, hst, hnm, htab, hrt, hI, hfr, hlo⟩ := C
  have hf : ∀ q ∈ locs, dA e q.base := hS.2.2
  match v, hv with
  | none, hv => exact W.vret hx hb (hrt.trans hv.2) (fun t ht hW => dQ_of hR hS ht hW) hf hv.1 hlk
  | some (.int x), hv =>
    obtain ⟨ty, h1, h2⟩ := hv.2
    exact W.zret hx hb (hrt.trans h1) h2 (fun t ht hW => dQ_of hR hS ht hW) hf hv.1 hlk
  | some (.long x), hv => exact W.lret hx hb (hrt.trans hv.2) (fun t ht hW => dQ_of hR hS ht hW) hf hv.1 hlk
  | some (.float x), hv => exact W.fret hx hb (hrt.trans hv.2) (fun t ht hW => dQ_of hR hS ht hW) hf hv.1 hlk
  | some (.double x), hv => exact W.dret hx hb (hrt.trans hv.2) (fun t ht hW => dQ_of hR hS ht hW) hf hv.1 hlk
  | some (.ref x), hv =>
    obtain ⟨ty, h1, h2⟩ := hv.2
    exact W.aret hx hb (hrt.trans h1) h2 (Or.inr ⟨x, rfl⟩) (fun t ht hW => dQ_of hR hS ht hW) hf hv.1 hlk
  | some .null, hv => exact hv.elim
  | some (.retAddr x), hv => exact hv.elim
theorem dEx_fit {E : Nat} : Bundle.fit (dEx E) = true := by
  match E with
  | 0 => decide +kernel
  | 1 => decide +kernel
  | 2 => decide +kernel
  | n + 3 => exact (by decide +kernel : Bundle.fit "java/lang/IllegalArgumentException" = true)
theorem dXn_fit : ∀ n ∈ dXn, Bundle.fit n = true := by decide +kernel
theorem bS_eq {l : List (Nat × Nat × String)} {a b : Nat} (h : bS l a b = true) : ∃ x ∈ l, x.1 = a ∧ x.2.1 = b := by
  obtain ⟨x, hx, h⟩ := List.any_eq_true.mp h
  obtain ⟨h1, h2⟩ := ok2 h
  exact ⟨x, hx, Nat.eq_of_beq_eq_true h1, Nat.eq_of_beq_eq_true h2⟩
theorem dX_of {m : dMem} {a : Nat} {cls : String} {E : Nat} {t : State} (hcls : cls = dEx E) (hR : dRep D m s H) (hS : va_S (dA e) s.heap H locs) (hal : s.vm.Alike t.vm) (hz : t.heap.size = H.size + 1) (ho : ∀ q : Nat, q < H.size → t.heap[q]? = H[q]?) : dXC e D (.inr E) (m.1, m.2.1 + 1, m.2.2 + a) cls s t :=
  ⟨⟨E, rfl, hcls⟩, (hR.skip hz ho).moved hal, Nat.le_trans hS.1 (by omega), fun q h1 h2 => (ho q (Nat.lt_of_lt_of_le h1 hS.1)).trans (hS.2.1 q h1 h2)⟩
/-- it throws an exception of its own -/
theorem s_new (C : dEv p l R s mth args meth c e D d j) (hempty : dHh j = []) {E pc ik is ic : Nat} {m : dMem} {lsM : Array Slot} {mc ms : Nat} (hX : okX j pc (.new ik) E 0 is ic = true) (hdg : decode (dBy j) pc = .ok (.new ik, 3)) (hR : dRep D m s H) (hS : va_S (dA e) s.heap H locs) (hsz : lsM.size = c.maxLocals)
    (hRc : cells + 1 ≤ R.cells) (hRs : slots + 6 ≤ R.slots) (hc : cells + 1 ≤ mc) (hs : slots + 6 ≤ ms) :
    W p l ee R s mth args below meth c H locs cells slots (vx_MQ below (dQc e D (.inr E) (m.1, m.2.1 + 1, m.2.2 + 6)) (dXC e D (.inr E) (m.1, m.2.1 + 1, m.2.2 + 6)) args s mc ms (dA e)) (F0 mth pc lsM []) := by
  obtain ⟨hx, hb, hml, hown, hlk, hts, hst, hnm, htab, hrt, hI, hfr, hlo⟩ := C
  have hNw : ∀ w ∈ dNG, va_Nw w s := hI.2.2.2.2.2.2.2.2.2.1
  have hout : ∀ (q : Nat) (x : ExceptionTableEntry), x ∈ c.exceptionTable.toList → covers x q = false := by
    intro q x hxm
    rw [htab, hempty] at hxm
    cases hxm
  obtain ⟨hX1, hX4⟩ := ok2 hX
  obtain ⟨hX1, hX3⟩ := ok2 hX1
  obtain ⟨hX1, hX2⟩ := ok2 hX1
  obtain ⟨h1, h2, h3⟩ := dXl_ok _ (b4_eq hX2)
  obtain ⟨msg, hm1, hm2, hm3⟩ := bS_eq hX3
  obtain ⟨sa, hsa⟩ := hI.2.2.2.2.2.2.2.2.1 msg hm1
  rw [hm2, hm3] at hsa
  have hat : ∀ w ∈ vx_atS (dOwn (dOn j)) ic (dEx E) dXn, w.before args s = true := by
    intro w hw
    rcases (dXc_eq (h3 w hw)).1 with z | z
    · exact hts w z
    · exact va_Nw.use (dNG_tab w z) (hNw w z)
  have hgood : ∀ w ∈ Cond.classLink (dOwn (dOn j)) ik (dEx E) :: Cond.initialized (dEx E) :: vx_atS (dOwn (dOn j)) ic (dEx E) dXn, vx_ot w = true := by
    intro w hw
    have g : ∀ w ∈ dTb, vx_ot w = true := fun w hw => by simp [vx_ot, dTb_g hw]
    rcases List.mem_cons.mp hw with rfl | hw
    · exact g _ h1
    · rcases List.mem_cons.mp hw with rfl | hw
      · exact g _ h2
      · exact (dXc_eq (h3 w hw)).2
  cases hr3 : Nat.ble is 255 with
  | true =>
    rw [hr3] at hX1
    simp only [cond_true, Bool.and_eq_true] at hX1
    obtain ⟨⟨⟨d3, d4⟩, d6⟩, d9⟩ := hX1
    exact s_throwS hx hb hst hown dEx_fit dXn_fit (hts _ h1) (hts _ h2) hsa hat hgood hI.2.1 hI.2.2.1 hS hsz hdg (dDec_eq d3) (dDec_eq d4) (dDec_eq d6) (dDec_eq d9) (hout _) (by show 2 + 3 < _; omega) (by show 0 + (13 * (2 + 1) + 43) ≤ _; omega) hRc hRs hlk
      (fun t hal hz ho => dX_of rfl hR hS hal hz ho) hS.2.2 hc hs
  | false =>
    rw [hr3] at hX1
    simp only [cond_false, Bool.and_eq_true] at hX1
    obtain ⟨⟨⟨d3, d4⟩, d7⟩, d10⟩ := hX1
    exact s_throwSW hx hb hst hown dEx_fit dXn_fit (hts _ h1) (hts _ h2) hsa hat hgood hI.2.1 hI.2.2.1 hS hsz hdg (dDec_eq d3) (dDec_eq d4) (dDec_eq d7) (dDec_eq d10) (hout _) (by show 2 + 3 < _; omega) (by show 0 + (13 * (2 + 1) + 43) ≤ _; omega) hRc hRs hlk
      (fun t hal hz ho => dX_of rfl hR hS hal hz ho) hS.2.2 hc hs
end ALL
theorem dpc_all : (List.range 406).all (fun j => Nat.beq (dpc j 0) 0) = true := by decide +kernel
theorem dpc_0 {j : Nat} (h : j < dNM) : dpc j 0 = 0 := Nat.eq_of_beq_eq_true (List.all_eq_true.mp dpc_all j (List.mem_range.mpr h))
theorem dN_ok (l : Launch) (hst : l.stackTraces = false) (e : dEnv) (D : va_G) : ∀ (d j : Nat) (as : List Value) (m : dMem) (o : Option Value ⊕ Nat) (m' : dMem), dN e d j as m = some (o, m') → j < dNM → j ≠ dLaw → CallOK l e D d j as m o m' := by
  intro d
  induction d with
  | zero => intro j as m o m' h; cases h
  | succ d ih =>
    intro j as m o m' h hj hjl
    obtain ⟨hrc, hsum, hrun, htr⟩ := dN_inv h
    obtain ⟨hc1, hini, hpl, hmh, hpar, hsi, -⟩ := dMO_all j hj hjl
    obtain ⟨hcl, hhe⟩ := dOwn_eq hj
    have hle := dN_mono _ _ _ _ _ _ h
    have hevH : ∀ {p : Program} {ee : Env} {s : State} {mth : MethodId} {args : Array Value} {below : List Frame} {meth : Method} {c : Code} {s₁ : State}, BodyLoose p l (dY j) (headSpec (dWs j) (rmD (d + 1) (m'.2.1 - m.2.1) (m'.2.2 - m.2.2))) (dBy j) (dMl j) (dRt j) ee s mth args below meth c s₁ → c.maxLocals = dMl j → c.exceptionTable.toList = tableOf (dHh j) → va_Pc as (dPre e D m) args s →
        dEv p l (rmD (d + 1) (m'.2.1 - m.2.1) (m'.2.2 - m.2.2)) s mth args meth c e D d j := by
      intro p ee s mth args below meth c s₁ B hml htab hP
      have hts := atoms_spec (ws := dWs j) B.pre
      exact ⟨B.exec, B.bytes, hml, hcl ▸ findClass_of_methodNamed B.named, B.notSynchronized, fun w hw => hts w (List.mem_cons_of_mem _ hw), hst, (name_of_methodNamed B.named B.method).1, htab, B.returns, hP.2.1, by show d + 11 ≤ d + 1 + 10; omega, by show 100 * d + 300 ≤ 100 * (d + 1) + 200; omega⟩
    refine ⟨fun ht => ⟨htr ht, ?_⟩, fun hf => ?_, fun hz => ?_⟩
    · have hws : dWs j = Cond.codeWith (dY j) (dBy j) (dMl j) (dRt j) (dHh j) :: dTb := by unfold dWs; rw [if_pos ht]
      refine Met_ofWH hpl hws ?_
      intro p ee s mth args below meth c s₁ B hml hP
      have htab := vx_table (x := dY j) B (atoms_spec (ws := dWs j) B.pre _ (by rw [hws]; exact List.mem_cons_self))
      have C := hevH B hml htab hP
      obtain ⟨rfl, hI, hR⟩ := hP
      have hz : s.heap.size = m.2.1 := hR.1
      rw [lg_entry_eq]
      have key := runL_ok (ee := ee) (below := below) (Q := MQ below (dQc e D o m') as.toArray s (m'.2.1 - m.2.1) (m'.2.2 - m.2.2) (dA e)) C (m0s := m.2.2) hj (by rw [hz]; exact Nat.le_refl _) (Nat.le_refl _) ih
        (fun v pc H locs lsM hv hro hR1 hS1 => by
          subst hv
          rw [hz]
          exact s_ret C hro hR1 hS1)
        (fun hf => by rw [ht] at hf; cases hf) (fun hf => by rw [ht] at hf; cases hf) htr dFuel 0 _ [] m s.heap [] _ hrun hR va_S.rf (Nat.le_refl _) (dHas_entry hsum)
      rw [hz, Nat.sub_self, Nat.sub_self, dpc_0 hj] at key
      exact key
    · have hws : dWs j = Cond.code (dY j) (dBy j) (dMl j) (dRt j) :: dTb := by unfold dWs; rw [if_neg (by rw [hf]; decide)]
      refine vx_ofW hpl hws ?_
      intro p ee s mth args below meth c s₁ B hml hte hP
      have hh0 := hhe hf
      have htab : c.exceptionTable.toList = tableOf (dHh j) := by
        rw [hh0]
        exact List.eq_nil_iff_forall_not_mem.mpr (fun x hx => hte x hx)
      have C := hevH B hml htab hP
      obtain ⟨rfl, hI, hR⟩ := hP
      have hz : s.heap.size = m.2.1 := hR.1
      rw [lg_entry_eq]
      have key := runL_ok (ee := ee) (below := below) (Q := vx_MQ below (dQc e D o m') (dXC e D o m') as.toArray s (m'.2.1 - m.2.1) (m'.2.2 - m.2.2) (dA e)) C (m0s := m.2.2) hj (by rw [hz]; exact Nat.le_refl _) (Nat.le_refl _) ih
        (fun v pc H locs lsM hv hro hR1 hS1 => by
          subst hv
          rw [hz]
          exact vx_ret (s_ret C hro hR1 hS1))
        (fun _ E pc ik is ic m1 H locs lsM ho hm hX hdg hR1 hS1 hm0 hsz => by
          subst ho
          subst hm
          have h1 : s.heap.size ≤ m1.2.1 := by rw [← hR1.1]; exact hS1.1
          exact s_new C hh0 hX hdg hR1 hS1 hsz (by show _ ≤ m1.2.1 + 1 - m.2.1; omega) (by show _ ≤ m1.2.2 + 6 - m.2.2; omega) (by show _ ≤ m1.2.1 + 1 - m.2.1; omega) (by show _ ≤ m1.2.2 + 6 - m.2.2; omega))
        (fun _ E pc H locs lsM rest q ce ho hR1 hS1 hce hcv hcl => by
          subst ho
          exact vx_out (fun x hx => (hte x hx).elim) B.notSynchronized hce hcv hcl (fun t ht hal => ⟨⟨E, rfl, rfl⟩, by rw [ht]; exact hR1.moved hal, hS1.F ht⟩) hS1.2.2 (by rw [hz]; exact Nat.le_refl _) (Nat.le_refl _)) htr dFuel 0 _ [] m s.heap [] _ hrun hR va_S.rf (Nat.le_refl _) (dHas_entry hsum)
      rw [hz, Nat.sub_self, Nat.sub_self, dpc_0 hj] at key
      exact key
    · unfold dRecv at hrc
      split at hrc
      · rename_i hq; exact absurd hq hz
      · rename_i cc hq
        split at hrc
        · rename_i a t
          obtain ⟨f, hm⟩ := isC_eq hrc
          exact ⟨cc, a, t, f, hq, rfl, hm⟩
        · cases hrc
end

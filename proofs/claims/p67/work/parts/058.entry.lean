/-! ===== the law's own walk ===== -/
noncomputable section
def R_law : String := "RetentionArchiveLaw"
def lw_P (b : Addr) (xs : List Int32) (args : Array Value) (s : State) : Prop := args = #[.ref b] ∧ s.IntsAt b xs ∧ xs.length ≤ 260 ∧ (Jvm.Cond.and given_1 narrow_1).before args s = true
/-- what a walk over the start with the record d0 says of its end, said of the start itself -/
theorem lw_closed {s t : State} {o : Outcome} {d0 : Drawn} {L : List Loc} {k n : Nat} (hd0 : s.drawn.sameBut d0 lw_cs) (hv : ∃ v, o = .returned v) (hW : (s.setDrawn d0).WarmedH t.vm) (hs : (s.setDrawn d0).sameButNew ({ t with vm := s.vm } : State) L k n) : State.butDraws s t lw_cs (fun t1 => Framed s o t1 L k n) := by
  have h2 : t.drawn = d0 := congrArg State.drawn hs.1
  refine ⟨⟨hv, hW, State.sameButNew.setDrawn hs s.drawn⟩, ?_, by decide⟩
  rw [h2]
  exact hd0
def lw_Q (_ : Array Value) (s : State) (o : Outcome) (t : State) : Prop := o = .returned (some (.int 1)) ∧ State.butDraws s t lw_cs (fun t1 => Framed s o t1 [] room_1.cells room_1.slots)
def lw_Z (below : List Frame) (a : Array Value) (s : State) : State → Prop := fun t => ∃ o, t.status = .running ∧ Ended t below o ∧ lw_Q a s o t
/-- the law's own end, with 1 on the stack -/
theorem lw_ret {p : Program} {l : Launch} {e : Env} {s : State} {m : MethodId} {below : List Frame} {meth : Method} {c : Code} {b : Nat} {d0 : Drawn} (hd0 : s.drawn.sameBut d0 lw_cs) (hx : p.tables.exec = Jvm.exec) (hb : c.code = code) (hr : meth.sig.returnType = ret) (hlocks : meth.locks = false) {pc : Nat} {H : Heap} {ls : Array Slot} (hdg : decode code pc = .ok (.ireturn, 1)) : W p l e room_1 (s.setDrawn d0) m #[Value.ref b] below meth c H [] room_1.cells room_1.slots (lw_Z below #[Value.ref b] s) (F0 m pc ls [.int 1]) := by
  intro T hT X
  obtain ⟨fs, hret, hrun, hended, hW, hframe⟩ := X.leave (v := some (.int 1)) (hlocks := hlocks) (fun h => by rw [hr] at h; cases h)
  have hmeth' : T.vm.method? m = some meth := X.method'
  refine ⟨T.setFrames fs, ?_, .returned (some (.int 1)), hrun, hended, rfl, lw_closed hd0 ⟨_, rfl⟩ hW hframe⟩
  jvm_step X.here [X.here.top, hx, hb, hdg, hmeth', hr, ret, narrow_b1]
  (try refine ⟨rfl, ?_⟩); (try refine ⟨rfl, ?_⟩)
  first | (intro acts; rw [hret _ acts rfl rfl rfl]) | rw [hret _ _ rfl rfl rfl]
  exact Steps.refl _
theorem dBy_law : dBy dLaw = code := rfl
theorem dMl_law : dMl dLaw = 6 := by decide +kernel
theorem dTr_law : dTr dLaw = false := by decide +kernel
theorem dHh_law : dHh dLaw = [] := by decide +kernel
theorem dOn_law : dOwn (dOn dLaw) = "RetentionArchiveLaw" := by decide +kernel
theorem dRt_law : dRt dLaw = ret := by decide +kernel
theorem dLaw_lt : dLaw < dNM := by decide +kernel
/-- the law, out of the interpreter's answer -/
theorem whole_run {p : Program} {ee : Env} {s : State} {m : MethodId} {below : List Frame} {meth : Method} {c : Code} (l : Launch) (hst : l.stackTraces = false) {b : Nat}
    (hx : p.tables.exec = Jvm.exec) (hb : c.code = code) (hr : meth.sig.returnType = ret) (hml : c.maxLocals = 6) (hown : s.vm.findClass R_law = some m.cls) (hts : ∀ w ∈ dTb, w.before #[Value.ref b] s = true) (hlk : meth.locks = false) (hnm : meth.name = (dY dLaw).name) (htab : c.exceptionTable.toList = [])
    {e : dEnv} {D : va_G} {d : Nat} {m0 mF : dMem} (he : s.heap.size ≤ e.1) (hd : d + 11 ≤ 2048 ∧ 100 * d + 300 ≤ 84000) (hI : dInv e D s s.heap) (hR : dRep D m0 s s.heap)
    (hrun : runL e (dN e d) dLaw dFuel 0 (some (.ref b) :: List.replicate 5 none) [] m0 = some (.inl (some (.int 1)), mF)) (hcells : mF.2.1 ≤ m0.2.1 + room_1.cells) (hslots : mF.2.2 ≤ m0.2.2 + room_1.slots) :
    W p l ee room_1 s m #[Value.ref b] below meth c s.heap [] 0 0 (lw_Z below #[Value.ref b] s) (entryFrame m ([Value.ref b] : List Value).toArray 6) := by
  have C : dEv p l room_1 s m #[Value.ref b] meth c e D d dLaw := ⟨hx, hb.trans dBy_law.symm, hml.trans dMl_law.symm, by rw [dOn_law]; exact hown, hlk, hts, hst, hnm, by rw [htab, dHh_law]; rfl, hr.trans dRt_law.symm, hI, hd.1, hd.2⟩
  have hz : s.heap.size = m0.2.1 := hR.1
  have hRc : mF.2.1 - s.heap.size ≤ room_1.cells := by rw [hz]; omega
  have hRs : mF.2.2 - m0.2.2 ≤ room_1.slots := by omega
  rw [lg_entry_eq]
  have hL : dHas ((lg_sl [Value.ref b] ++ List.replicate (6 - (lg_sl [Value.ref b]).length) Slot.unset).toArray) (dMl dLaw) (some (.ref b) :: List.replicate 5 none) := by
    rw [dMl_law]
    exact dHas_entry (as := [Value.ref b]) (k := 5) (by show 1 + 0 ≤ 6; decide)
  have key := runL_ok (ee := ee) (below := below) (Q := lw_Z below #[Value.ref b] s) C (m0s := m0.2.2) dLaw_lt hRc hRs (fun j' as m o' m' h h1 h2 => dN_ok l hst e D d j' as m o' m' h h1 h2)
    (fun v pc H locs lsM hv hro hR1 hS1 => by
      cases hv
      obtain ⟨hdg, -⟩ := hro
      refine va_forget (fun q hq => Nat.le_trans he (hS1.2.2 q hq)) ?_
      refine W.widen hRc hRs ?_
      refine W.base ?_
      exact lw_ret (Drawn.sameBut.refl s.drawn lw_cs) hx hb hr hlk (by rw [← dBy_law]; exact hdg))
    (fun _ E pc ik is ic m1 H locs lsM ho => by cases ho) (fun _ E pc H locs lsM rest q ce ho => by cases ho) (fun h => by rw [dTr_law] at h; cases h) dFuel 0 _ [] m0 s.heap [] _ hrun hR va_S.rf (Nat.le_refl _) hL
  rw [hz, Nat.sub_self, Nat.sub_self, dpc_0 dLaw_lt] at key
  exact key
end

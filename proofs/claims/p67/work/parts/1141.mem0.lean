/-! ===== what the first memory holds ===== -/
noncomputable section
def slotV (H : Heap) (a i : Nat) : Value := match H[a]? with | some c => (c.slots[i]?).getD .null | none => .null
def slotI (H : Heap) (a j : Nat) : Int32 := match slotV H a j with | .int x => x | _ => 0
def nLen (H : Heap) (a : Nat) : Nat := match H[a]? with | some c => c.slots.size.toInt32.toInt.toNat | none => 0
theorem cv_small {n : Nat} (h : n < 128) : cvI 3 (Int32.ofNat n) = Int32.ofNat n := by
  have : ∀ n : Fin 128, cvI 3 (Int32.ofNat n.val) = Int32.ofNat n.val := by decide +kernel
  exact this ⟨n, h⟩
theorem dAt_arr {D : va_G} {s : State} {A : Nat → Prop} {a : Nat} {bs : List Nat} (hT : va_T .byte a bs.length (fun j => .int (Int32.ofNat (bs.getD j 0))) A s s.heap) (hN : bs.length < 2 ^ 31) (hb : ∀ j, bs.getD j 0 < 128) (h100 : D.1 100 = s.heap.size) :
    dAt D s s.heap a (.inl (3, nLen s.heap a, .inl (slotI s.heap a))) ∧ nLen s.heap a = bs.length ∧ ∀ j, j < bs.length → slotI s.heap a j = Int32.ofNat (bs.getD j 0) := by
  obtain ⟨cell, h1, h2, h3, h4, h5, h6, h7⟩ := hT
  have hn : nLen s.heap a = bs.length := by
    simp only [nLen, h1, h5]
    have := nI_toInt hN
    show (nI bs.length).toInt.toNat = _
    rw [this]
    omega
  have hI : ∀ j, j < bs.length → slotI s.heap a j = Int32.ofNat (bs.getD j 0) := by
    intro j hj
    simp only [slotI, slotV, h1, h6 j hj, Option.getD_some]
  refine ⟨⟨cell, h1, h2, h3, ⟨by show nLen s.heap a ≤ _; rw [hn]; exact h4, by show _ = Int32.ofNat (nLen s.heap a); rw [hn]; exact h5⟩, fun j hj => ?_, fun h => absurd h (show ¬ (3 : Nat) = 5 by decide), fun g hg j hj => ?_, fun h => absurd h (show ¬ (3 : Nat) = 6 by decide), fun _ h => absurd (Array.getElem?_eq_some_iff.mp h1).1 (Nat.not_lt.mpr (Nat.le_trans (Nat.le_of_eq h100.symm) h))⟩, hn, hI⟩
  · have hj' : j < bs.length := by rw [← hn]; exact hj
    show cell.slots[j]? = some (.int (slotI s.heap a j))
    rw [hI j hj', h6 j hj']
  · cases hg
    have hj' : j < bs.length := by rw [← hn]; exact hj
    rw [hI j hj']
    exact cv_small (hb j)
theorem dAt_str {D : va_G} {s : State} {args : Array Value} {A : Nat → Prop} {a v : Nat} (hts : ∀ w ∈ dTb, w.before args s = true) (hK : va_K D dCl [] s) (hO : va_O "java/lang/String" a A s s.heap) (hc : va_OF "java/lang/String" "coder" "B" (.int 0) a A s s.heap) (hv : va_OF "java/lang/String" "value" "[B" (.ref v) a A s s.heap)
    (hsz : ∃ (cell : Cell) (k : Class), s.heap[a]? = some cell ∧ s.vm.classes[cell.cls]? = some k ∧ (k.kind = .ordinary → cell.slots.size = k.instanceTypes.size)) (h100 : D.1 100 = s.heap.size) :
    dAt D s s.heap a (.inr (0, fun k => slotV s.heap a (D.2 0 k))) ∧ slotV s.heap a (D.2 0 0) = .ref v ∧ slotV s.heap a (D.2 0 1) = .int 0 := by
  obtain ⟨cell, o1, o2, o3, o4⟩ := hO
  obtain ⟨cf1, k1, i1, f1, c1, a1, a2, a3, a4, a5, -⟩ := hv
  obtain ⟨cf2, k2, i2, f2, c2, b1, b2, b3, b4, b5, -⟩ := hc
  obtain ⟨c3, k3, d1, d2, d3⟩ := hsz
  cases Option.some.inj (o1.symm.trans a3)
  cases Option.some.inj (o1.symm.trans b3)
  cases Option.some.inj (o1.symm.trans d1)
  obtain ⟨hS1, hfc, kC, hkC, hkind⟩ := hK.1 0 ("java/lang/String", dT0, 4) rfl
  have hcls : cell.cls = D.1 0 := Option.some.inj (o3.symm.trans hfc)
  rw [hcls] at d2
  cases Option.some.inj (hkC.symm.trans d2)
  have hsize := d3 hkind
  have hin := (dCl_ok 0 ("java/lang/String", dT0, 4) rfl).1
  have hslot : ∀ k, k < 4 → cell.slots[D.2 0 k]? = some (slotV s.heap a (D.2 0 k)) := by
    intro k hk
    obtain ⟨cf, kf, fi, fd, hi, hsl⟩ := hS1 k hk
    have h3 := (u_facts hfc hkC (u_lays hts hin hk) hi).2.2
    have hlt : fd.slot < cell.slots.size := by rw [hsize]; exact (Array.getElem?_eq_some_iff.mp h3).1
    rw [← hsl]
    simp only [slotV, o1, Array.getElem?_eq_getElem hlt, Option.getD_some]
  have e0 : cell.slots[D.2 0 0]? = some (.ref v) := by
    obtain ⟨cf, kf, fi, fd, hi, hsl⟩ := hS1 0 (by decide)
    have : f1 = fd := by
      have := a1.symm.trans hi
      simp only [Option.some.injEq, Prod.mk.injEq] at this
      exact this.2.2.2
    rw [← hsl, ← this]
    exact a5
  have e1 : cell.slots[D.2 0 1]? = some (.int 0) := by
    obtain ⟨cf, kf, fi, fd, hi, hsl⟩ := hS1 1 (by decide)
    have : f2 = fd := by
      have := b1.symm.trans hi
      simp only [Option.some.injEq, Prod.mk.injEq] at this
      exact this.2.2.2
    rw [← hsl, ← this]
    exact b5
  refine ⟨⟨_, rfl, cell, o1, hcls, ⟨o2, a4, fun h => h.elim (fun z => absurd rfl z) (fun z => absurd (Array.getElem?_eq_some_iff.mp o1).1 (Nat.not_lt.mpr (Nat.le_trans (Nat.le_of_eq h100.symm) z)))⟩, hslot⟩, ?_, ?_⟩
  · exact Option.some.inj ((hslot 0 (by decide)).symm.trans e0)
  · exact Option.some.inj ((hslot 1 (by decide)).symm.trans e1)
end

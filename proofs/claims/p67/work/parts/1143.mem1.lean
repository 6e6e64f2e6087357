/-! ===== the first memory ===== -/
noncomputable section
theorem arrA {s : State} {b : Nat} {cell : Cell} (h : s.arrayAt? b = some cell) : s.heap[b]? = some cell ∧ cell.vm ≠ .unknown := by
  unfold State.arrayAt? at h
  cases h1 : s.heap[b]? with
  | none => simp [h1] at h
  | some c =>
    cases h2 : s.vm.classes[c.cls]? with
    | none => simp [h1, h2] at h
    | some k =>
      simp only [h1, h2, Option.bind_eq_bind, Option.bind_some] at h
      split at h
      · cases h
      · rename_i hn
        split at h
        · cases h
          exact ⟨rfl, fun q => hn (Or.inl q)⟩
        · cases h
/-- a string is no array -/
theorem str_na {D : va_G} {s : State} {A : Nat → Prop} {a : Nat} {cell : Cell} {ty : FieldType} (hK : va_K D dCl [] s) (hO : va_O "java/lang/String" a A s s.heap) (hc : s.heap[a]? = some cell) (hT : s.isArrayOf cell ty) : False := by
  obtain ⟨cell', o1, o2, o3, o4⟩ := hO
  have hcc : cell' = cell := Option.some.inj (o1.symm.trans hc)
  rw [hcc] at o3
  obtain ⟨hS1, hfc, kC, hkC, hkind⟩ := hK.1 0 ("java/lang/String", dT0, 4) rfl
  have hcls : cell.cls = D.1 0 := Option.some.inj (o3.symm.trans hfc)
  obtain ⟨-, k, k1, comp, k2⟩ := hT
  rw [hcls] at k1
  cases Option.some.inj (hkC.symm.trans k1)
  rw [hkind] at k2
  cases k2
theorem dByt_w : ∀ k, k < 36 → ∀ bs, dByt[k]? = some bs → wd k = bs := by
  have h : dByt = wl := rfl
  intro k hk bs hb
  rw [h] at hb
  unfold wd
  rw [List.getD_eq_getElem?_getD, hb]
  rfl
theorem dByt_s : ∀ bs ∈ dByt, bs.length < 2 ^ 31 ∧ ∀ v ∈ bs, v < 128 := by decide +kernel
theorem dOn_s : dOnes.length = 100 ∧ (∀ v ∈ dOnes, v < 128) ∧ ∀ r, r < 100 → dOnes.getD r 0 = 48 + r % 10 := by decide +kernel
theorem dTe_s : dTens.length = 100 ∧ (∀ v ∈ dTens, v < 128) ∧ ∀ r, r < 100 → dTens.getD r 0 = 48 + r / 10 := by decide +kernel
def cIte {α : Type} (p : Prop) (x y : α) : α := @ite α p (Classical.propDecidable p) x y
theorem cI_p {α : Type} {p : Prop} {x y : α} (h : p) : cIte p x y = x := if_pos h
theorem cI_n {α : Type} {p : Prop} {x y : α} (h : ¬ p) : cIte p x y = y := if_neg h
def mFs (D : va_G) (s : State) (ad : Nat → Nat × Nat) (t1 t2 b N : Nat) (f : Nat → Int32) : dMem := (fun a => cIte (∃ k, k < 36 ∧ a = (ad k).1) (some (.inr (0, fun k => slotV s.heap a (D.2 0 k)))) (cIte (a = b) (some (.inl (0, N, .inl f))) (cIte ((∃ k, k < 36 ∧ a = (ad k).2) ∨ a = t1 ∨ a = t2) (some (.inl (3, nLen s.heap a, .inl (slotI s.heap a)))) none)), s.heap.size, 0)
theorem st_mem {args : Array Value} {s : State} {b : Nat} {xs : List Int32} (hts : ∀ w ∈ dTb, w.before args s = true) (hT : ∀ w ∈ lw_tbl, w.before args s = true) (hF : ∀ w ∈ nFlat, w.before args s = true) (hI : s.IntsAt b xs) : ∃ (e : dEnv) (D : va_G) (m : dMem), e.1 = s.heap.size ∧ dInv e D s s.heap ∧ dRep D m s s.heap ∧ hSt e s.heap.size m ∧ hDig e s.heap.size m ∧ b < s.heap.size ∧ m.1 b = some (.inl (0, xs.length, .inl fun j => xs.getD j 0)) ∧ m.2 = (s.heap.size, 0) := by
  obtain ⟨D, ad, t1, t2, inv, had, T1, T2⟩ := st_inv hts hT hF
  have hK : va_K D dCl [] s := inv.1
  have h100 : D.1 100 = s.heap.size := inv.2.2.2.2.2.2.2.2.2.2.2.2.2.2.2
  obtain ⟨cellb, b1, b2, b3, b4⟩ := hI
  obtain ⟨b5, b6⟩ := arrA b1
  have bl : b < s.heap.size := (Array.getElem?_eq_some_iff.mp b5).1
  have bsz : cellb.slots.size = xs.length := by rw [← Array.length_toList, b2, List.length_map]
  -- places
  have o1 : dOnes.length < 2 ^ 31 := by decide +kernel
  have o2 : dTens.length < 2 ^ 31 := by decide +kernel
  have ones := dAt_arr (D := D) T1 o1 (fun j => gd_lt dOn_s.2.1) h100
  have tens := dAt_arr (D := D) T2 o2 (fun j => gd_lt dTe_s.2.1) h100
  have bytes : ∀ k, k < 36 → ∃ bs, wd k = bs ∧ dAt D s s.heap (ad k).2 (.inl (3, nLen s.heap (ad k).2, .inl (slotI s.heap (ad k).2))) ∧ nLen s.heap (ad k).2 = bs.length ∧ ∀ j, j < bs.length → slotI s.heap (ad k).2 j = Int32.ofNat (bs.getD j 0) := by
    intro k hk
    obtain ⟨q, bs, h1, h2, h3, h4, h5, h6, h7⟩ := had k hk
    obtain ⟨s1, s2⟩ := dByt_s bs (List.mem_of_getElem? h2)
    exact ⟨bs, dByt_w k hk bs h2, dAt_arr (D := D) h6 s1 (fun j => gd_lt s2) h100⟩
  have strs : ∀ k, k < 36 → dAt D s s.heap (ad k).1 (.inr (0, fun j => slotV s.heap (ad k).1 (D.2 0 j))) ∧ slotV s.heap (ad k).1 (D.2 0 0) = .ref (ad k).2 ∧ slotV s.heap (ad k).1 (D.2 0 1) = .int 0 := by
    intro k hk
    obtain ⟨q, bs, h1, h2, h3, h4, h5, h6, h7⟩ := had k hk
    exact dAt_str hts hK h3 h4 h5 h7 h100
  have na : ∀ k, k < 36 → ∀ a cell ty, s.heap[a]? = some cell → s.isArrayOf cell ty → a ≠ (ad k).1 := by
    intro k hk a cell ty hc hT q
    subst q
    obtain ⟨q, bs, h1, h2, h3, -⟩ := had k hk
    exact str_na hK h3 hc hT
  have nb : ∀ a cell, s.heap[a]? = some cell → s.isArrayOf cell .byte → a ≠ b := by
    intro a cell hc hT q
    subst q
    cases Option.some.inj (b5.symm.trans hc)
    obtain ⟨-, k, k1, comp, k2⟩ := hT
    obtain ⟨-, k', k1', comp', k2'⟩ := b3
    cases Option.some.inj (k1.symm.trans k1')
    rw [k2] at k2'
    cases k2'
  have mb : (mFs D s ad t1 t2 b xs.length (fun j => xs.getD j 0)).1 b = some (.inl (0, xs.length, .inl fun j => xs.getD j 0)) := by
    unfold mFs
    show cIte (∃ k, k < 36 ∧ b = (ad k).1) _ (cIte (b = b) _ _) = _
    rw [cI_n (fun ⟨k, hk, q⟩ => na k hk b cellb .int b5 b3 q), cI_p rfl]
  have mB : ∀ a cell, s.heap[a]? = some cell → s.isArrayOf cell .byte → ((∃ k, k < 36 ∧ a = (ad k).2) ∨ a = t1 ∨ a = t2) → (mFs D s ad t1 t2 b xs.length (fun j => xs.getD j 0)).1 a = some (.inl (3, nLen s.heap a, .inl (slotI s.heap a))) := by
    intro a cell hc hT ha
    unfold mFs
    show cIte (∃ k, k < 36 ∧ a = (ad k).1) _ (cIte (a = b) _ (cIte _ _ _)) = _
    rw [cI_n (fun ⟨k, hk, q⟩ => na k hk a cell .byte hc hT q), cI_n (nb a cell hc hT), cI_p ha]
  have mS : ∀ k, k < 36 → (mFs D s ad t1 t2 b xs.length (fun j => xs.getD j 0)).1 (ad k).1 = some (.inr (0, fun j => slotV s.heap (ad k).1 (D.2 0 j))) := by
    intro k hk
    unfold mFs
    exact cI_p ⟨k, hk, rfl⟩
  have lt : ∀ (a : Nat) (cell : Cell), s.heap[a]? = some cell → a < s.heap.size := fun a cell h => (Array.getElem?_eq_some_iff.mp h).1
  refine ⟨(s.heap.size, fun k => if k = 1000 then t1 else if k = 1001 then t2 else (ad k).1), D, mFs D s ad t1 t2 b xs.length (fun j => xs.getD j 0), rfl, inv, ⟨rfl, fun a o ho => ?_⟩, fun k hk => ?_, ?_, bl, mb, rfl⟩
  · by_cases h : ∃ k, k < 36 ∧ a = (ad k).1
    · obtain ⟨k, hk, rfl⟩ := h
      rw [mS k hk] at ho
      cases ho
      exact (strs k hk).1
    · by_cases h2 : a = b
      · subst h2
        rw [mb] at ho
        cases ho
        refine ⟨cellb, b5, b3, b6, ⟨?_, ?_⟩, fun j hj => ?_, fun h => absurd h (show ¬ (0 : Nat) = 5 by decide), fun g hg j hj => rfl, fun h => absurd h (show ¬ (0 : Nat) = 6 by decide), fun h => absurd h (show ¬ (0 : Nat) = 3 by decide)⟩
        · show xs.length ≤ _
          rw [bsz]
          exact Nat.le_refl _
        · exact congrArg Nat.toInt32 bsz
        · have hj' : j < xs.length := hj
          show cellb.slots[j]? = some (.int (xs.getD j 0))
          rw [← Array.getElem?_toList, b2, List.getElem?_map, List.getD_eq_getElem?_getD, List.getElem?_eq_getElem hj']
          rfl
      · by_cases h3 : (∃ k, k < 36 ∧ a = (ad k).2) ∨ a = t1 ∨ a = t2
        · have ho' : (mFs D s ad t1 t2 b xs.length (fun j => xs.getD j 0)).1 a = some (.inl (3, nLen s.heap a, .inl (slotI s.heap a))) := by
            unfold mFs
            show cIte (∃ k, k < 36 ∧ a = (ad k).1) _ (cIte (a = b) _ (cIte _ _ _)) = _
            rw [cI_n h, cI_n h2, cI_p h3]
          rw [ho'] at ho
          cases ho
          rcases h3 with ⟨k, hk, rfl⟩ | rfl | rfl
          · obtain ⟨bs, -, h1, -⟩ := bytes k hk
            exact h1
          · exact ones.1
          · exact tens.1
        · have ho' : (mFs D s ad t1 t2 b xs.length (fun j => xs.getD j 0)).1 a = none := by
            unfold mFs
            show cIte (∃ k, k < 36 ∧ a = (ad k).1) _ (cIte (a = b) _ (cIte _ _ _)) = _
            rw [cI_n h, cI_n h2, cI_n h3]
          rw [ho'] at ho
          cases ho
  · obtain ⟨bs, w1, w2, w3, w4⟩ := bytes k hk
    obtain ⟨v1, v2, v3⟩ := strs k hk
    obtain ⟨cv, c1, c2, -⟩ := w2
    obtain ⟨r, r1, cs, c3, -⟩ := v1
    show hS1 _ _ (if k = 1000 then t1 else if k = 1001 then t2 else (ad k).1) _
    rw [if_neg (by omega), if_neg (by omega), w1]
    refine ⟨lt _ _ c3, (ad k).2, _, slotI s.heap (ad k).2, lt _ _ c1, mS k hk, v2, v3, ?_, w4⟩
    rw [mB (ad k).2 cv c1 c2 (Or.inl ⟨k, hk, rfl⟩), w3]
  · obtain ⟨⟨cv, c1, c2, -⟩, l1, l2⟩ := ones
    obtain ⟨⟨cw, d1, d2, -⟩, n1, n2⟩ := tens
    have m1 := mB t1 cv c1 c2 (Or.inr (Or.inl rfl))
    have m2 := mB t2 cw d1 d2 (Or.inr (Or.inr rfl))
    rw [dOn_s.1] at l1 l2
    rw [dTe_s.1] at n1 n2
    rw [l1] at m1
    rw [n1] at m2
    have rd : ∀ (a : Nat) (g : Nat → Int32) (r : Nat), r < 100 → (mFs D s ad t1 t2 b xs.length (fun j => xs.getD j 0)).1 a = some (.inl (3, 100, .inl g)) → aI (mFs D s ad t1 t2 b xs.length (fun j => xs.getD j 0)) 3 a (Int32.ofNat r) = some (g r) := by
      intro a g r hr hm
      unfold aI
      rw [hm]
      have h1 : (Int32.ofNat r).toInt = (r : Int) := nToI (by omega)
      simp only [h1]
      rw [if_pos ⟨trivial, by omega, by omega⟩]
      rfl
    refine ⟨lt _ _ c1, lt _ _ d1, fun r hr => ⟨?_, ?_⟩⟩
    · show aI _ 3 t1 _ = _
      rw [rd t1 _ r hr m1, l2 r hr, dOn_s.2.2 r hr]
    · show aI _ 3 t2 _ = _
      rw [rd t2 _ r hr m2, n2 r hr, dTe_s.2.2 r hr]
end

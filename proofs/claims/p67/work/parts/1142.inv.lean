/-! ===== what holds at the start (printed by wip/p67/st.py) ===== -/
noncomputable section
theorem st_nc {args : Array Value} {s : State} (hF : ∀ w ∈ nFlat, w.before args s = true) : ∀ q ∈ dNc, va_Nc q.1 q.2 s := by
  intro q hq
  unfold dNc at hq
  rcases List.mem_cons.mp hq with rfl | hq
  · exact va_Nc.of (args := args) (hF _ (List.mem_of_getElem? (i := 265) (by decide +kernel)))
  rcases List.mem_cons.mp hq with rfl | hq
  · exact va_Nc.of (args := args) (hF _ (List.mem_of_getElem? (i := 230) (by decide +kernel)))
  rcases List.mem_cons.mp hq with rfl | hq
  · exact va_Nc.of (args := args) (hF _ (List.mem_of_getElem? (i := 248) (by decide +kernel)))
  rcases List.mem_cons.mp hq with rfl | hq
  · exact va_Nc.of (args := args) (hF _ (List.mem_of_getElem? (i := 231) (by decide +kernel)))
  rcases List.mem_cons.mp hq with rfl | hq
  · exact va_Nc.of (args := args) (hF _ (List.mem_of_getElem? (i := 238) (by decide +kernel)))
  rcases List.mem_cons.mp hq with rfl | hq
  · exact va_Nc.of (args := args) (hF _ (List.mem_of_getElem? (i := 255) (by decide +kernel)))
  cases hq
theorem st_fw {args : Array Value} {s : State} (hT : ∀ w ∈ lw_tbl, w.before args s = true) : ∀ q ∈ dFw, va_Fw q.1 q.2.1 q.2.2 s := by
  intro q hq
  unfold dFw at hq
  rcases List.mem_cons.mp hq with rfl | hq
  · exact va_Fw.of (hT _ (tI 1671 (by decide +kernel))) (hT _ (tI 1670 (by decide +kernel))) (hT _ (tI 1679 (by decide +kernel))) (hT _ (tI 1678 (by decide +kernel))) (hT _ (tI 1676 (by decide +kernel)))
  rcases List.mem_cons.mp hq with rfl | hq
  · exact va_Fw.of (hT _ (tI 1671 (by decide +kernel))) (hT _ (tI 1670 (by decide +kernel))) (hT _ (tI 1675 (by decide +kernel))) (hT _ (tI 1674 (by decide +kernel))) (hT _ (tI 1672 (by decide +kernel)))
  rcases List.mem_cons.mp hq with rfl | hq
  · exact va_Fw.of (hT _ (tI 1683 (by decide +kernel))) (hT _ (tI 1682 (by decide +kernel))) (hT _ (tI 1689 (by decide +kernel))) (hT _ (tI 1688 (by decide +kernel))) (hT _ (tI 1676 (by decide +kernel)))
  rcases List.mem_cons.mp hq with rfl | hq
  · exact va_Fw.of (hT _ (tI 1683 (by decide +kernel))) (hT _ (tI 1682 (by decide +kernel))) (hT _ (tI 1686 (by decide +kernel))) (hT _ (tI 1685 (by decide +kernel))) (hT _ (tI 1672 (by decide +kernel)))
  cases hq
theorem st_msg {args : Array Value} {s : State} (hT : ∀ w ∈ lw_tbl, w.before args s = true) (hF : ∀ w ∈ nFlat, w.before args s = true) : ∀ q ∈ dMsg, ∃ sa, vk_R (dOwn q.1) q.2.1 q.2.2 sa s := by
  intro q hq
  obtain ⟨h1, h2⟩ := nMsg_all q hq
  obtain ⟨a, c, cA, kA, q1, -⟩ := Cond.exactly_spec (args := args) (first := s) (o := none) (s := s) (idx := []) (t := .string (dOwn q.1) q.2.1) (cls := "java/lang/String") (hF _ h1)
  exact ⟨a, hT _ h2, q1⟩
theorem st_inv {args : Array Value} {s : State} (hts : ∀ w ∈ dTb, w.before args s = true) (hT : ∀ w ∈ lw_tbl, w.before args s = true) (hF : ∀ w ∈ nFlat, w.before args s = true) : ∃ (D : va_G) (ad : Nat → Nat × Nat) (t1 t2 : Nat), dInv (s.heap.size, fun k => if k = 1000 then t1 else if k = 1001 then t2 else (ad k).1) D s s.heap ∧
    (∀ k, k < 36 → ∃ q bs, dStr[k]? = some q ∧ dByt[k]? = some bs ∧ va_O "java/lang/String" (ad k).1 (fun q => s.heap.size ≤ q) s s.heap ∧ va_OF "java/lang/String" "coder" "B" (.int 0) (ad k).1 (fun q => s.heap.size ≤ q) s s.heap ∧ va_OF "java/lang/String" "value" "[B" (.ref (ad k).2) (ad k).1 (fun q => s.heap.size ≤ q) s s.heap ∧ va_T .byte (ad k).2 bs.length (fun j => .int (Int32.ofNat (bs.getD j 0))) (fun q => s.heap.size ≤ q) s s.heap ∧ (∃ (cell : Cell) (k' : Class), s.heap[(ad k).1]? = some cell ∧ s.vm.classes[cell.cls]? = some k' ∧ (k'.kind = .ordinary → cell.slots.size = k'.instanceTypes.size))) ∧
    va_T .byte t1 dOnes.length (fun j => .int (Int32.ofNat (dOnes.getD j 0))) (fun q => s.heap.size ≤ q) s s.heap ∧ va_T .byte t2 dTens.length (fun j => .int (Int32.ofNat (dTens.getD j 0))) (fun q => s.heap.size ≤ q) s s.heap := by
  have hA : ∀ a : Nat, a < s.heap.size → ¬ (s.heap.size ≤ a) := fun a h => by omega
  obtain ⟨D, hK, h100⟩ := start_D hts
  have h30 : ∀ k, ∃ p : Nat × Nat, k < 36 → ∃ q bs, dStr[k]? = some q ∧ dByt[k]? = some bs ∧ (Term.string (dOwn q.1) q.2.1).eval args s none [] s = some (.ref p.1) ∧ va_O "java/lang/String" p.1 (fun q => s.heap.size ≤ q) s s.heap ∧ va_OF "java/lang/String" "coder" "B" (.int 0) p.1 (fun q => s.heap.size ≤ q) s s.heap ∧ va_OF "java/lang/String" "value" "[B" (.ref p.2) p.1 (fun q => s.heap.size ≤ q) s s.heap ∧ va_T .byte p.2 bs.length (fun j => .int (Int32.ofNat (bs.getD j 0))) (fun q => s.heap.size ≤ q) s s.heap ∧ (∃ (cell : Cell) (k' : Class), s.heap[p.1]? = some cell ∧ s.vm.classes[cell.cls]? = some k' ∧ (k'.kind = .ordinary → cell.slots.size = k'.instanceTypes.size)) := by
    intro k
    by_cases hk : k < 36
    · obtain ⟨q, bs, h1, h2, h3⟩ := nStr_all hk
      have hlen : bs.length < 2 ^ 31 := by
        have : ∀ b ∈ dByt, b.length < 2 ^ 31 := by decide +kernel
        exact this bs (List.mem_of_getElem? h2)
      obtain ⟨p, hp⟩ := str_of (args := args) (s := s) (own := dOwn q.1) (i := q.2.1) (bs := bs) (A := fun q => s.heap.size ≤ q) (fun w hw => hF w (h3 w hw)) hlen hA
      exact ⟨p, fun _ => ⟨q, bs, h1, h2, hp⟩⟩
    · exact ⟨(0, 0), fun h => absurd h hk⟩
  obtain ⟨ad, had⟩ := Classical.axiomOfChoice h30
  obtain ⟨t1, e1, T1⟩ := dig_of (args := args) (s := s) (A := fun q => s.heap.size ≤ q) (fun w hw => hF w (nDig_all.1 w hw)) (by decide +kernel) hA
  obtain ⟨t2, e2, T2⟩ := dig_of (args := args) (s := s) (A := fun q => s.heap.size ≤ q) (fun w hw => hF w (nDig_all.2 w hw)) (by decide +kernel) hA
  refine ⟨D, ad, t1, t2, ⟨hK, ?_, ?_, ?_, ?_, ?_, ?_, fun k q hq => ?_, st_msg hT hF, fun w hw => ?_, st_nc hF, Nat.le_refl _, ?_, ?_, st_fw hT, h100⟩, fun k hk => ?_, T1, T2⟩
  · exact vx_Zqof (args := args) (hT _ (tI 623 (by decide +kernel))) (hT _ (tI 14 (by decide +kernel))) (hF _ (List.mem_of_getElem? (i := 215) (by decide +kernel))) hA
  · exact vx_Zqof (args := args) (hT _ (tI 625 (by decide +kernel))) (hT _ (tI 14 (by decide +kernel))) (hF _ (List.mem_of_getElem? (i := 216) (by decide +kernel))) hA
  · exact va_Zof (args := args) (hT _ (tI 289 (by decide +kernel))) (hT _ (tI 5 (by decide +kernel))) (va_eqt (hF _ (List.mem_of_getElem? (i := 4) (by decide +kernel)))) hA
  · exact va_Zref (args := args) (hT _ (tI 520 (by decide +kernel))) (hT _ (tI 13 (by decide +kernel))) e1 hA
  · exact va_Zref (args := args) (hT _ (tI 522 (by decide +kernel))) (hT _ (tI 13 (by decide +kernel))) e2 hA
  · exact va_Zqof (args := args) (hT _ (tI 460 (by decide +kernel))) (hT _ (tI 11 (by decide +kernel))) (hF _ (List.mem_of_getElem? (i := 5) (by decide +kernel))) hA
  · have hk : k < 36 := by
      have := (List.getElem?_eq_some_iff.mp hq).1
      exact this
    obtain ⟨q', bs, h1, -, h3, -⟩ := had k hk
    rw [hq] at h1
    cases h1
    show vk_R _ _ _ (if k = 1000 then t1 else if k = 1001 then t2 else (ad k).1) s
    rw [if_neg (by omega), if_neg (by omega)]
    exact ⟨hT _ (nRef_all q (List.mem_of_getElem? hq)), h3⟩
  · exact va_Nw.of (dNG_tab w hw) (hT w (dNG_in w hw))
  · exact va_AO.of (hT _ (tI 249 (by decide +kernel)))
  · exact va_AO.of (hT _ (tI 370 (by decide +kernel)))
  · obtain ⟨q', bs, h1, h2, -, h4⟩ := had k hk
    exact ⟨q', bs, h1, h2, h4⟩
end

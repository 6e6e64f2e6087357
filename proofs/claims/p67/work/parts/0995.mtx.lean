/-! ===== texts as lists of letters; the reference's text (printed by wip/whole/tx1.py) ===== -/
noncomputable section
/-- the letters of a name from the i-th on, n at most -/
def nmK (h : sV) (p : Nat) : Nat → Nat → List Nat
  | 0, _ => []
  | n + 1, i => if h (p + i) = Int32.ofNat 0 then [] else nN (h (p + i)) :: nmK h p n (i + 1)
def mrkS (s h : sV) (k : Nat) : List Nat := ((if gonB s k = true then [45] else [65 + nN (bx s k 4) / nN (h 1)] ++ dig (nN (bx s k 4) % nN (h 1))) ++ [47]) ++ nmK h (46 + 6 * clN s k) 6 0
def rowK (s h : sV) (i : Nat) : Nat → List Nat
  | 0 => []
  | q + 1 => rowK s h i q ++ [nN (sgnS s h (i * nN (h 1) + q))]
def rowS (s h : sV) (i : Nat) : List Nat := rowK s h i (nN (h 1))
def lstK (s h : sV) : Nat → List Nat
  | 0 => []
  | q + 1 => (((if 0 < q then lstK s h q ++ [32] else lstK s h q) ++ dig (nN (s (3 + q)))) ++ [58]) ++ dig (nN (dueS s h (nN (s (3 + q)))))
def lstS (s h : sV) : List Nat := if nlS s = 0 then [45] else lstK s h (nlS s)
theorem nmK_len {h : sV} {p : Nat} : ∀ {n i : Nat}, (nmK h p n i).length ≤ n := by
  intro n
  induction n with
  | zero => intro i; exact Nat.le_refl _
  | succ n ih =>
    intro i
    show (if h (p + i) = Int32.ofNat 0 then [] else nN (h (p + i)) :: nmK h p n (i + 1)).length ≤ n + 1
    split
    · exact Nat.zero_le _
    · exact Nat.succ_le_succ ih
theorem rowK_len {s h : sV} {i : Nat} : ∀ {q : Nat}, (rowK s h i q).length = q
  | 0 => rfl
  | q + 1 => by
    show (rowK s h i q ++ [_]).length = q + 1
    rw [List.length_append, rowK_len]
    rfl
theorem sgn_v {s h : sV} {q : Nat} : sgnS s h q = Int32.ofNat (nN (sgnS s h q)) ∧ nN (sgnS s h q) < 128 := by
  have key : ∃ v, sgnS s h q = Int32.ofNat v ∧ v < 128 := by
    unfold sgnS
    cases fnd (nbS s) (fun k => decide (bx s k 4 = Int32.ofNat q)) with
    | none => exact ⟨46, rfl, by omega⟩
    | some k =>
      show ∃ v, (if bx s k 5 = nM1 then _ else _) = _ ∧ _
      split
      · split
        · exact ⟨115, rfl, by omega⟩
        · split
          · exact ⟨112, rfl, by omega⟩
          · split
            · exact ⟨100, rfl, by omega⟩
            · exact ⟨98, rfl, by omega⟩
      · exact ⟨108, rfl, by omega⟩
  obtain ⟨v, h1, h2⟩ := key
  rw [h1, nN_o (by omega)]
  exact ⟨rfl, h2⟩
theorem WB.mk {h s : sV} {k : Nat} (W : WB h s k) (hg : gonB s k = false) : ∃ q, bx s k 4 = Int32.ofNat q ∧ nN (bx s k 4) = q ∧ q ≤ 47 ∧ q < mkN h := by
  obtain ⟨-, -, -, -, a4, -⟩ := W
  rcases a4 with ⟨-, y⟩ | ⟨y, z, -⟩
  · unfold gonB at hg
    rw [y] at hg
    exact absurd hg (by decide +kernel)
  · obtain ⟨q, q1, q2, -, q4⟩ := y.ex
    exact ⟨q, q1, q2, q4, by omega⟩
theorem due_v {Y : Nat} {h s : sV} {k : Nat} (hY : Y + 100 ≤ 1000000) (W : WS Y h s) (H : WH h) {p : Nat} (hp : p < nlS s) (hk : s (3 + p) = Int32.ofNat k) (hk2 : k < 24) : dueS s h k = Int32.ofNat (nN (dueS s h k)) ∧ nN (dueS s h k) < 1000000 := by
  obtain ⟨w1, w2, w3⟩ := W.2.2.2.2.1 p hp
  have hkn : nN (s (3 + p)) = k := by rw [hk, nN_o (by omega)]
  rw [hkn] at w2 w3
  obtain ⟨d1, d2, d3, d4, d5⟩ := due_n (by omega) W H w2
  obtain ⟨y, y1, y2, y3, y4⟩ := W.2.2.1.ex
  have hv : nN (bx s k 1) + nN (h (94 + clN s k)) + nN (bx s k 2) + 1 < 2147483648 := by omega
  rw [d1, y1, nLe hv (by omega)] at w3
  rw [d1, nN_o hv]
  exact ⟨rfl, by omega⟩
theorem lstK_len {Y : Nat} {s h : sV} (hY : Y + 100 ≤ 1000000) (W : WS Y h s) (H : WH h) : ∀ {q : Nat}, q ≤ nlS s → (lstK s h q).length ≤ 10 * q ∧ (0 < q → 0 < (lstK s h q).length)
  | 0, _ => ⟨Nat.le_refl _, fun h => absurd h (Nat.lt_irrefl _)⟩
  | q + 1, hq => by
    have ih := lstK_len (q := q) hY W H (by omega)
    obtain ⟨w1, w2, w3⟩ := W.2.2.2.2.1 q (by omega)
    obtain ⟨k, k1, k2, -, k4⟩ := w1.ex
    have dv := due_v (k := k) hY W H (p := q) (by omega) k1 (by omega)
    rw [← k2] at dv
    have l1 := dig_n dv.2
    have l2 := dgN_b dv.2
    have l3 := dig_n (v := nN (s (3 + q))) (by omega)
    have l4 : dgN (nN (s (3 + q))) ≤ 2 := by unfold dgN; rw [k2]; (repeat' split) <;> omega
    have l5 := dgN_b (v := nN (s (3 + q))) (by omega)
    show ((((if 0 < q then lstK s h q ++ [32] else lstK s h q) ++ dig (nN (s (3 + q)))) ++ [58]) ++ dig (nN (dueS s h (nN (s (3 + q)))))).length ≤ 10 * (q + 1) ∧ (0 < q + 1 → 0 < ((((if 0 < q then lstK s h q ++ [32] else lstK s h q) ++ dig (nN (s (3 + q)))) ++ [58]) ++ dig (nN (dueS s h (nN (s (3 + q)))))).length)
    rw [List.length_append, List.length_append, List.length_append, l1, l3, show ([58] : List Nat).length = 1 from rfl]
    have l6 : (if 0 < q then lstK s h q ++ [32] else lstK s h q).length ≤ 10 * q + 1 := by
      split
      · rw [List.length_append, show ([32] : List Nat).length = 1 from rfl]; omega
      · omega
    exact ⟨by omega, fun _ => by omega⟩
section
variable {e : dEnv} {d b Y : Nat} {M : bX} {l : List Nat} {m : dMem}
end
end

/-! ===== names among names (printed by wip/whole/con.py) ===== -/
noncomputable section
section
variable {e : dEnv} {d a n : Nat} {m : dMem}
theorem n160 {x : Int64} {i v : Int32} : dN e (d + 1) 160 [.long x, .int i, .int v] m = some (.inl (some (.long (x ||| (v.toInt64 <<< ((Int32.ofNat 8 * i).toInt64 &&& 63))))), m) := by
  refine en160 fun t ht => ?_
  obtain ⟨u, rfl⟩ := fu 9 ht rfl
  rw [q160_0]
theorem lg_0 {x y : Int64} : (lg_cmp x y = Int32.ofNat 0) = (x = y) := by
  unfold lg_cmp
  by_cases h : x = y
  · subst h
    rw [if_neg (by exact Int64.lt_irrefl), if_pos rfl]
    exact (eq_true rfl).trans (eq_true rfl).symm
  · rw [if_neg h]
    refine (eq_false ?_).trans (eq_false h).symm
    split
    · decide +kernel
    · decide +kernel
theorem n162 {f : Nat → Int64} {v : Int64} (hn : n < 100) (hf : ∀ k, k < n → aL m 1 a (Int32.ofNat k) = some (f k)) : dN e (d + 1) 162 [.ref a, .int (Int32.ofNat n), .long v] m = rI (bI (anyB n fun k => decide (f k = v))) m := by
  refine en162 fun t ht => ?_
  obtain ⟨u, rfl⟩ := fu 1 ht rfl
  rw [q162_0]
  refine (lp_find2 (c := 2) (n := n) (p := fun k => decide (f k = v)) (r := fun _ => rI (bI true) m) (r0 := rI (bI false) m) (G := fun t k => runL e (dN e d) 162 t 1 [some (.ref a), some (.int (Int32.ofNat n)), some (.long v), none, some (.int (Int32.ofNat k))] [] m) (fun k hk hp => ⟨2, by omega, fun t => ?_⟩) (fun t k hk hp => ?_) (fun t => ?_) u (by omega)).trans ?_
  · have z : ¬ f k = v := of_decide_eq_false hp
    rw [q162_1, if_pos (by rw [nLt (by omega) (by omega)]; exact hk), hf k hk]
    simp only [bd_s]
    rw [if_neg (by rw [lg_0]; exact z), q162_2, nAdd]
  · have z : f k = v := of_decide_eq_true hp
    show runL e (dN e d) 162 (t + 1 + 1) 1 _ [] m = _
    rw [q162_1, if_pos (by rw [nLt (by omega) (by omega)]; exact hk), hf k hk]
    simp only [bd_s]
    rw [if_pos (by rw [lg_0]; exact z), rZ_1]
  · show runL e (dN e d) 162 (t + 1 + 1) 1 _ [] m = _
    rw [q162_1, if_neg (by rw [nLt (by omega) (by omega)]; exact Nat.lt_irrefl n), q162_3, rZ_0]
  · unfold anyB
    cases fnd n (fun k => decide (f k = v)) <;> rfl
end
end

/-! ===== the words that every method asks ===== -/
/-- a field of a class by its number: where the code names it so -/
def dFld (own : String) (idx ci k : Nat) : Prop := ∃ r : vw_C, dCl[ci]? = some r ∧ k < r.2.2 ∧ Cond.fieldLink own idx (r.2.1 k).1 (r.2.1 k).2.1 (r.2.1 k).2.2.1 ∈ lw_tbl ∧ goodWord (Cond.fieldLink own idx (r.2.1 k).1 (r.2.1 k).2.1 (r.2.1 k).2.2.1) = true
/-- a nest mate's field -/
def dFldN (own : String) (idx ci k : Nat) : Prop := ∃ (r : vw_C) (host : String), dCl[ci]? = some r ∧ k < r.2.2 ∧ Cond.fieldLinkNest own idx (r.2.1 k).1 (r.2.1 k).2.1 (r.2.1 k).2.2.1 host ∈ lw_tbl
/-- private methods of a superclass: what is chosen for the subclass's objects -/
def dPy (n d : String) : MethodName := ⟨"java/lang/AbstractStringBuilder", n, d⟩
def dXt : List Cond := [.selects "java/lang/StringBuilder" (dPy "ensureCapacityInternal" "(I)V") (dPy "ensureCapacityInternal" "(I)V"), .selects "java/lang/StringBuilder" (dPy "newCapacity" "(I)I") (dPy "newCapacity" "(I)I"), .selects "java/lang/StringBuilder" (dPy "putStringAt" "(ILjava/lang/String;)V") (dPy "putStringAt" "(ILjava/lang/String;)V"), .selects "java/lang/StringBuilder" (dPy "inflateIfNeededFor" "(Ljava/lang/String;)V") (dPy "inflateIfNeededFor" "(Ljava/lang/String;)V")]
def dTb : List Cond := dXt ++ lw_tbl.filter goodWord
theorem dTb_of {w : Cond} (h : w ∈ lw_tbl) (g : goodWord w = true) : w ∈ dTb := List.mem_append_right _ (List.mem_filter.mpr ⟨h, g⟩)
theorem dTb_g {w : Cond} (h : w ∈ dTb) : goodWord w = true := by
  rcases List.mem_append.mp h with h | h
  · simp only [dXt, List.mem_cons, List.not_mem_nil, or_false] at h
    rcases h with rfl | rfl | rfl | rfl <;> rfl
  · exact (List.mem_filter.mp h).2
theorem dTb_x {w : Cond} (i : Nat) (h : dXt[i]? = some w) : w ∈ dTb := List.mem_append_left _ (List.mem_of_getElem? h)
/-- the words of the classes -/
def dClOk : Prop := ∀ (ci : Nat) (r : vw_C), dCl[ci]? = some r → (∀ w ∈ u_ws r.1 r.2.1 r.2.2, w ∈ dTb) ∧ (∀ k, k < r.2.2 → parseFieldDescriptor (r.2.1 k).2.2.1 = some (dTy ci k)) ∧ (∀ a, a < r.2.2 → ∀ b, b < r.2.2 → a ≠ b → (r.2.1 a).2.1 ≠ (r.2.1 b).2.1)
/-- calls through an interface: the receiver's class, the method named, the method chosen -/
def dFl : MethodName := ⟨"java/lang/CharSequence", "length", "()I"⟩
def dFc : MethodName := ⟨"java/lang/CharSequence", "charAt", "(I)C"⟩
def dFw : List (String × MethodName × MethodName) := [("java/lang/StringBuilder", dFl, ⟨"java/lang/StringBuilder", "length", "()I"⟩), ("java/lang/String", dFl, ⟨"java/lang/String", "length", "()I"⟩), ("java/lang/StringBuilder", dFc, ⟨"java/lang/StringBuilder", "charAt", "(I)C"⟩), ("java/lang/String", dFc, ⟨"java/lang/String", "charAt", "(I)C"⟩)]

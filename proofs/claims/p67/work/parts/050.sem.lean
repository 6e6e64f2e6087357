/-! ===== what the abstract memory says of the heap; one row an access ===== -/
def dty (k : Nat) : FieldType := if k = 0 then .int else if k = 1 then .long else if k = 2 then .double else if k = 3 then .byte else if k = 4 then .boolean else if k = 6 then .object "RetentionArchiveLaw$Box" else .object "RetentionArchive$Archive"
def dvl (c : dArr) (j : Nat) : Value := match c with
  | .inl f => .int (f j)
  | .inr (.inl f) => .long (f j)
  | .inr (.inr (.inl f)) => .double (f j)
  | .inr (.inr (.inr f)) => va_rf (f j)
/-- an object: a String may be a constant -/
def dOB (lo ci a : Nat) (cC : ClassId) (N : Nat) (iS : Nat → Nat) (H : Heap) (V : Nat → Value) : Prop :=
  ∃ cell : Cell, H[a]? = some cell ∧ cell.cls = cC ∧ (cell.vm.isStatics = false ∧ cell.vm ≠ .unknown ∧ (ci ≠ 0 ∨ lo ≤ a → cell.vm = .none)) ∧ ∀ k, k < N → cell.slots[iS k]? = some (V k)
theorem dOB.kept {lo ci a : Nat} {cC : ClassId} {N : Nat} {iS : Nat → Nat} {H H1 : Heap} {V : Nat → Value} (h : dOB lo ci a cC N iS H V) (h1 : H1[a]? = H[a]?) : dOB lo ci a cC N iS H1 V := by
  obtain ⟨cell, q, r⟩ := h
  exact ⟨cell, by rw [h1]; exact q, r⟩
theorem t_OB.d {lo ci a : Nat} {cC : ClassId} {N : Nat} {iS : Nat → Nat} {H : Heap} {V : Nat → Value} (h : t_OB a cC N iS H V) : dOB lo ci a cC N iS H V := by
  obtain ⟨cell, q1, q2, q3, q4⟩ := h
  exact ⟨cell, q1, q2, ⟨by rw [q3]; rfl, (fun h => by rw [q3] at h; cases h), fun _ => q3⟩, q4⟩
def dAt (D : va_G) (U : State) (H : Heap) (a : Nat) (o : dObj) : Prop := match o with
  | .inl q => ∃ cell : Cell, H[a]? = some cell ∧ U.isArrayOf cell (dty q.1) ∧ cell.vm ≠ .unknown ∧ (q.2.1 ≤ cell.slots.size ∧ cell.slots.size.toInt32 = Int32.ofNat q.2.1) ∧ (∀ j, j < q.2.1 → cell.slots[j]? = some (dvl q.2.2 j)) ∧ (q.1 = 5 → ∃ kA : Class, U.vm.classes[cell.cls]? = some kA ∧ kA.kind = .array (D.1 2) (.object "RetentionArchive$Archive")) ∧ (∀ g, q.2.2 = .inl g → ∀ j, j < q.2.1 → cvI q.1 (g j) = g j) ∧ (q.1 = 6 → ∃ kA : Class, U.vm.classes[cell.cls]? = some kA ∧ kA.kind = .array (D.1 10) (.object "RetentionArchiveLaw$Box")) ∧ (q.1 = 3 → D.1 100 ≤ a → U.vm.findClass "[B" = some cell.cls ∧ cell.slots.size = q.2.1 ∧ cell.vm = .none)
  | .inr q => ∃ r : vw_C, dCl[q.1]? = some r ∧ dOB (D.1 100) q.1 a (D.1 q.1) r.2.2 (D.2 q.1) H q.2
def dRep (D : va_G) (m : dMem) (U : State) (H : Heap) : Prop := H.size = m.2.1 ∧ ∀ a o, m.1 a = some o → dAt D U H a o
theorem cvI_idem (kd : Nat) (x : Int32) : cvI kd (cvI kd x) = cvI kd x := by
  unfold cvI
  split
  · rw [Int8.toInt8_toInt32]
  · split
    · rw [Int32.and_assoc, Int32.and_self]
    · rfl
theorem dAt.kept {D : va_G} {U : State} {H H1 : Heap} {a : Nat} {o : dObj} (h : dAt D U H a o) (hq : H1[a]? = H[a]?) : dAt D U H1 a o := by
  cases o with
  | inl q =>
    obtain ⟨cell, h1, h2⟩ := h
    exact ⟨cell, by rw [hq]; exact h1, h2⟩
  | inr q =>
    obtain ⟨r, h1, h2⟩ := h
    exact ⟨r, h1, h2.kept hq⟩
theorem dAt.moved {D : va_G} {u U : State} {H : Heap} {a : Nat} {o : dObj} (hvm : u.vm.Alike U.vm) (h : dAt D u H a o) : dAt D U H a o := by
  cases o with
  | inl q =>
    obtain ⟨cell, h1, h2, h3, h4, h5, h6, h7, h8, h9⟩ := h
    refine ⟨cell, h1, State.isArrayOf_alike hvm h2, h3, h4, h5, fun h => ?_, h7, fun h => ?_, fun h z => ?_⟩
    · obtain ⟨kA, g1, g2⟩ := h6 h
      obtain ⟨k', hk', he⟩ := hvm.2.2 _ _ g1
      exact ⟨k', hk', by rw [he]; exact g2⟩
    · obtain ⟨kA, g1, g2⟩ := h8 h
      obtain ⟨k', hk', he⟩ := hvm.2.2 _ _ g1
      exact ⟨k', hk', by rw [he]; exact g2⟩
    · obtain ⟨g1, g2⟩ := h9 h z
      exact ⟨by rw [Vm.Alike.findClass hvm]; exact g1, g2⟩
  | inr q => exact h
theorem dAt.lt {D : va_G} {U : State} {H : Heap} {a : Nat} {o : dObj} (h : dAt D U H a o) : a < H.size := by
  cases o with
  | inl q =>
    obtain ⟨cell, h1, -⟩ := h
    exact (Array.getElem?_eq_some_iff.mp h1).1
  | inr q =>
    obtain ⟨r, h1, cell, h2, -⟩ := h
    exact (Array.getElem?_eq_some_iff.mp h2).1
theorem dRep.moved {D : va_G} {m : dMem} {u U : State} {H : Heap} (hvm : u.vm.Alike U.vm) (h : dRep D m u H) : dRep D m U H := ⟨h.1, fun a o q => (h.2 a o q).moved hvm⟩
theorem dRep.up {D : va_G} {m : dMem} {U : State} {H H1 : Heap} {a : Nat} {o : dObj} (h : dRep D m U H) (hz : H1.size = H.size) (oq : ∀ q : Nat, q ≠ a → H1[q]? = H[q]?) (ha : dAt D U H1 a o) : dRep D (dUp m a o) U H1 := by
  refine ⟨hz.trans h.1, fun b o2 hb => ?_⟩
  by_cases hba : b = a
  · subst hba
    simp only [dUp, if_pos] at hb
    cases hb
    exact ha
  · simp only [dUp, if_neg hba] at hb
    exact (h.2 b o2 hb).kept (oq b hba)
theorem dRep.push {D : va_G} {m : dMem} {U : State} {H H1 : Heap} {o : dObj} {k : Nat} (h : dRep D m U H) (hz : H1.size = H.size + 1) (oq : ∀ q : Nat, q < H.size → H1[q]? = H[q]?) (ha : dAt D U H1 H.size o) : dRep D (fun q => if q = m.2.1 then some o else m.1 q, m.2.1 + 1, k) U H1 := by
  refine ⟨by rw [hz, h.1], fun b o2 hb => ?_⟩
  by_cases hba : b = m.2.1
  · subst hba
    simp only [if_pos] at hb
    cases hb
    rw [← h.1]
    exact ha
  · simp only [if_neg hba] at hb
    have h2 := h.2 b o2 hb
    exact h2.kept (oq b h2.lt)
theorem dRep.skip {D : va_G} {m : dMem} {U : State} {H H1 : Heap} {k : Nat} (h : dRep D m U H) (hz : H1.size = H.size + 1) (oq : ∀ q : Nat, q < H.size → H1[q]? = H[q]?) : dRep D (m.1, m.2.1 + 1, k) U H1 := by
  refine ⟨by rw [hz, h.1], fun b o2 hb => ?_⟩
  have h2 := h.2 b o2 hb
  exact h2.kept (oq b h2.lt)
theorem dIdx {i : Int32} {n : Nat} (h1 : 0 ≤ i.toInt) (h2 : i.toInt < n) : ¬ (i < 0 ∨ n ≤ i.toNatClampNeg) := by
  rintro (h | h)
  · rw [Int32.lt_iff_toInt_lt] at h
    simp at h
    omega
  · have : i.toNatClampNeg = i.toInt.toNat := rfl
    omega
/-- locals by places -/
def dlv : Nat → dLs → List (Nat × Value)
  | _, [] => []
  | i, some v :: t => (i, v) :: dlv (i + 1) t
  | i, none :: t => dlv (i + 1) t
theorem dlv_mem : ∀ (ls : dLs) (k i : Nat) (v : Value), (i, v) ∈ dlv k ls ↔ ∃ j, i = k + j ∧ ls[j]? = some (some v)
  | [], k, i, v => by simp [dlv]
  | none :: t, k, i, v => by
    rw [dlv, dlv_mem t (k + 1) i v]
    constructor
    · rintro ⟨j, h1, h2⟩
      exact ⟨j + 1, by omega, by simpa using h2⟩
    · rintro ⟨j, h1, h2⟩
      cases j with
      | zero => simp at h2
      | succ j => exact ⟨j, by omega, by simpa using h2⟩
  | some w :: t, k, i, v => by
    rw [dlv, List.mem_cons, dlv_mem t (k + 1) i v]
    constructor
    · rintro (h | ⟨j, h1, h2⟩)
      · cases h
        exact ⟨0, rfl, rfl⟩
      · exact ⟨j + 1, by omega, by simpa using h2⟩
    · rintro ⟨j, h1, h2⟩
      cases j with
      | zero =>
        simp at h2
        subst h2
        exact Or.inl (by rw [h1]; rfl)
      | succ j => exact Or.inr ⟨j, by omega, by simpa using h2⟩
def dHas (lm : Array Slot) (nL : Nat) (ls : dLs) : Prop := lv_has lm nL (dlv 0 ls)
theorem dHas.at {lm : Array Slot} {nL : Nat} {ls : dLs} (h : dHas lm nL ls) {i : Nat} {v : Value} (hi : ls[i]? = some (some v)) : lm[i]? = some (.val v) :=
  h.2.2 (i, v) ((dlv_mem ls 0 i v).mpr ⟨i, by omega, hi⟩)
theorem dHas.of {lm : Array Slot} {nL : Nat} {ls : dLs} {l : List (Nat × Value)} (h : lv_has lm nL l) (hl : ∀ (i : Nat) (v : Value), ls[i]? = some (some v) → (i, v) ∈ l) : dHas lm nL ls := by
  refine ⟨h.1, h.2.1, fun q hq => ?_⟩
  obtain ⟨i, v⟩ := q
  obtain ⟨j, h1, h2⟩ := (dlv_mem ls 0 i v).mp hq
  have : i = j := by omega
  subst this
  exact h.2.2 _ (hl _ _ h2)
theorem dHas.mono {lm : Array Slot} {nL : Nat} {ls ls' : dLs} (h : dHas lm nL ls) (hl : ∀ (i : Nat) (v : Value), ls'[i]? = some (some v) → ls[i]? = some (some v)) : dHas lm nL ls' :=
  dHas.of h (fun i v hi => (dlv_mem ls 0 i v).mpr ⟨i, by omega, hl i v hi⟩)
theorem dMk_get : ∀ (ls : dLs) (k i : Nat) (v : Value), (dMk k ls)[i]? = some (some v) → ls[i]? = some (some v)
  | [], k, i, v, h => by simp [dMk] at h
  | o :: t, k, 0, v, h => by
    simp only [dMk, List.getElem?_cons_zero, Option.some.injEq] at h ⊢
    cases hb : Nat.beq (k % 2) 1 with
    | true => rw [hb] at h; exact h
    | false => rw [hb] at h; cases h
  | o :: t, k, i + 1, v, h => by
    simp only [dMk, List.getElem?_cons_succ] at h ⊢
    exact dMk_get t (k / 2) i v h
theorem dKill_get {o : Option Value} {v : Value} (h : dKill o = some v) : o = some v ∧ v.category = 1 := by
  cases o with
  | none => cases h
  | some w => cases w <;> simp [dKill] at h <;> subst h <;> exact ⟨rfl, rfl⟩
theorem st1_get : ∀ (ls : dLs) (i : Nat) (v : Value) (k : Nat) (w : Value), (st1 ls i v)[k]? = some (some w) → (k = i ∧ w = v) ∨ (k ≠ i ∧ ls[k]? = some (some w) ∧ ¬ (k + 1 = i ∧ w.category = 2))
  | [], i, v, k, w, h => by simp [st1] at h
  | o :: t, 0, v, k, w, h => by
    cases k with
    | zero =>
      simp [st1] at h
      exact Or.inl ⟨rfl, h.symm⟩
    | succ k =>
      simp [st1] at h
      exact Or.inr ⟨by omega, by simpa using h, by omega⟩
  | o :: t, 1, v, k, w, h => by
    cases k with
    | zero =>
      simp [st1] at h
      obtain ⟨h1, h2⟩ := dKill_get h
      exact Or.inr ⟨by omega, by simpa using h1, by omega⟩
    | succ k =>
      have h' : (st1 t 0 v)[k]? = some (some w) := by simpa [st1] using h
      rcases st1_get t 0 v k w h' with ⟨h1, h2⟩ | ⟨h1, h2, h3⟩
      · exact Or.inl ⟨by omega, h2⟩
      · exact Or.inr ⟨by omega, by simpa using h2, by omega⟩
  | o :: t, i + 2, v, k, w, h => by
    cases k with
    | zero =>
      simp [st1] at h
      exact Or.inr ⟨by omega, by simpa using h, by omega⟩
    | succ k =>
      have h' : (st1 t (i + 1) v)[k]? = some (some w) := by simpa [st1] using h
      rcases st1_get t (i + 1) v k w h' with ⟨h1, h2⟩ | ⟨h1, h2, h3⟩
      · exact Or.inl ⟨by omega, h2⟩
      · exact Or.inr ⟨by omega, by simpa using h2, by omega⟩
theorem st2_get : ∀ (ls : dLs) (i : Nat) (v : Value) (k : Nat) (w : Value), (st2 ls i v)[k]? = some (some w) → (k = i ∧ w = v) ∨ (k ≠ i ∧ k ≠ i + 1 ∧ ls[k]? = some (some w) ∧ ¬ (k + 1 = i ∧ w.category = 2))
  | [], i, v, k, w, h => by simp [st2] at h
  | o :: t, 0, v, k, w, h => by
    cases k with
    | zero =>
      simp [st2] at h
      exact Or.inl ⟨rfl, h.symm⟩
    | succ k =>
      cases t with
      | nil => simp [st2] at h
      | cons x t =>
        cases k with
        | zero => simp [st2] at h
        | succ k =>
          simp [st2] at h
          exact Or.inr ⟨by omega, by omega, by simpa using h, by omega⟩
  | o :: t, 1, v, k, w, h => by
    cases k with
    | zero =>
      simp [st2] at h
      obtain ⟨h1, h2⟩ := dKill_get h
      exact Or.inr ⟨by omega, by omega, by simpa using h1, by omega⟩
    | succ k =>
      have h' : (st2 t 0 v)[k]? = some (some w) := by simpa [st2] using h
      rcases st2_get t 0 v k w h' with ⟨h1, h2⟩ | ⟨h1, h4, h2, h3⟩
      · exact Or.inl ⟨by omega, h2⟩
      · exact Or.inr ⟨by omega, by omega, by simpa using h2, by omega⟩
  | o :: t, i + 2, v, k, w, h => by
    cases k with
    | zero =>
      simp [st2] at h
      exact Or.inr ⟨by omega, by omega, by simpa using h, by omega⟩
    | succ k =>
      have h' : (st2 t (i + 1) v)[k]? = some (some w) := by simpa [st2] using h
      rcases st2_get t (i + 1) v k w h' with ⟨h1, h2⟩ | ⟨h1, h4, h2, h3⟩
      · exact Or.inl ⟨by omega, h2⟩
      · exact Or.inr ⟨by omega, by omega, by simpa using h2, by omega⟩
theorem dHas.st1 {lm : Array Slot} {nL i : Nat} {ls : dLs} {v : Value} {l0 : List (Nat × Value)} (hl : l0 = (i, v) :: (dlv 0 ls).filter (fun q => !(q.1 == i) && !(q.1 + 1 == i && q.2.category == 2))) (h : lv_has lm nL l0) : dHas lm nL (st1 ls i v) := by
  subst hl
  refine dHas.of h (fun k w hk => ?_)
  rcases st1_get ls i v k w hk with ⟨h1, h2⟩ | ⟨h1, h2, h3⟩
  · subst h1; subst h2; exact List.mem_cons_self
  · refine List.mem_cons_of_mem _ (List.mem_filter.mpr ⟨(dlv_mem ls 0 k w).mpr ⟨k, by omega, h2⟩, ?_⟩)
    simp only [Bool.and_eq_true, Bool.not_eq_true', beq_eq_false_iff_ne, Bool.and_eq_false_iff]
    refine ⟨h1, ?_⟩
    by_cases h4 : k + 1 = i
    · exact Or.inr (fun h5 => h3 ⟨h4, h5⟩)
    · exact Or.inl h4
theorem dHas.st2 {lm : Array Slot} {nL i : Nat} {ls : dLs} {v : Value} {l0 : List (Nat × Value)} (hl : l0 = (i, v) :: (dlv 0 ls).filter (fun q => !(q.1 == i) && (!(q.1 == i + 1) && !(q.1 + 1 == i && q.2.category == 2)))) (h : lv_has lm nL l0) : dHas lm nL (st2 ls i v) := by
  subst hl
  refine dHas.of h (fun k w hk => ?_)
  rcases st2_get ls i v k w hk with ⟨h1, h2⟩ | ⟨h1, h4, h2, h3⟩
  · subst h1; subst h2; exact List.mem_cons_self
  · refine List.mem_cons_of_mem _ (List.mem_filter.mpr ⟨(dlv_mem ls 0 k w).mpr ⟨k, by omega, h2⟩, ?_⟩)
    simp only [Bool.and_eq_true, Bool.not_eq_true', beq_eq_false_iff_ne, Bool.and_eq_false_iff]
    refine ⟨h1, h4, ?_⟩
    by_cases h6 : k + 1 = i
    · exact Or.inr (fun h5 => h3 ⟨h6, h5⟩)
    · exact Or.inl h6
theorem dSum_eq : ∀ st : List Value, (st.map fun v => v.category).sum = dSum st
  | [] => rfl
  | v :: t => by
    rw [List.map_cons, List.sum_cons, dSum_eq t]
    cases v <;> rfl
theorem dSpl_eq : ∀ (n : Nat) (acc st as rest : List Value), dSpl n acc st = some (as, rest) → ∃ xs, xs.length = n ∧ st = xs ++ rest ∧ as = xs.reverse ++ acc
  | 0, acc, st, as, rest, h => by
    simp only [dSpl, Option.some.injEq, Prod.mk.injEq] at h
    exact ⟨[], rfl, by rw [h.2]; rfl, by rw [← h.1]; rfl⟩
  | n + 1, acc, [], as, rest, h => by cases h
  | n + 1, acc, v :: st, as, rest, h => by
    obtain ⟨xs, h1, h2, h3⟩ := dSpl_eq n (v :: acc) st as rest h
    exact ⟨v :: xs, by rw [List.length_cons, h1], by rw [h2]; rfl, by rw [h3]; simp⟩
theorem entL_get : ∀ (as : List Value) (k i : Nat) (v : Value), (entL as)[i]? = some (some v) → (k + i, v) ∈ lv_args k as
  | [], k, i, v, h => by simp [entL] at h
  | w :: t, k, i, v, h => by
    have key : ∀ (w : Value), w.category = 1 → (some w :: entL t)[i]? = some (some v) → (k + i, v) ∈ (k, w) :: lv_args (k + 1) t := by
      intro w _ h
      cases i with
      | zero =>
        simp at h
        subst h
        exact List.mem_cons_self
      | succ i =>
        have h' : (entL t)[i]? = some (some v) := by simpa using h
        have := entL_get t (k + 1) i v h'
        rw [show k + 1 + i = k + (i + 1) by omega] at this
        exact List.mem_cons_of_mem _ this
    have key2 : ∀ (w : Value), w.category = 2 → (some w :: none :: entL t)[i]? = some (some v) → (k + i, v) ∈ (k, w) :: lv_args (k + 2) t := by
      intro w _ h
      match i, h with
      | 0, h =>
        simp at h
        subst h
        exact List.mem_cons_self
      | 1, h => simp at h
      | i + 2, h =>
        have h' : (entL t)[i]? = some (some v) := by simpa using h
        have := entL_get t (k + 2) i v h'
        rw [show k + 2 + i = k + (i + 2) by omega] at this
        exact List.mem_cons_of_mem _ this
    cases w with
    | long x => exact key2 (.long x) rfl h
    | double x => exact key2 (.double x) rfl h
    | int x => exact key (.int x) rfl h
    | float x => exact key (.float x) rfl h
    | null => exact key .null rfl h
    | ref x => exact key (.ref x) rfl h
    | retAddr x => exact key (.retAddr x) rfl h

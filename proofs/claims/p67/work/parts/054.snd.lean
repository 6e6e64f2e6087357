/-! ===== the memory only grows ===== -/
def dLe (m m' : dMem) : Prop := m.2.1 ≤ m'.2.1 ∧ m.2.2 ≤ m'.2.2
theorem dLe.rf {m : dMem} : dLe m m := ⟨Nat.le_refl _, Nat.le_refl _⟩
theorem dLe.tr {a b c : dMem} (h : dLe a b) (h2 : dLe b c) : dLe a c := ⟨Nat.le_trans h.1 h2.1, Nat.le_trans h.2 h2.2⟩
theorem dLe_up {m : dMem} {a : Nat} {o : dObj} : dLe m (dUp m a o) := dLe.rf
theorem dLe_pV {e : dEnv} {m m' : dMem} {a c k : Nat} {v : Value} (h : pV e m a c k v = some m') : dLe m m' := by
  obtain ⟨f, -, -, rfl⟩ := pV_eq h
  exact dLe_up
theorem dLe_pZ {e : dEnv} {m m' : dMem} {a c k : Nat} {v : Int32} (h : pZ e m a c k v = some m') : dLe m m' := by
  unfold pZ at h
  split at h
  · exact dLe_pV h
  · cases h
theorem dLe_pB {e : dEnv} {m m' : dMem} {a c k : Nat} {v : Int32} (h : pB e m a c k v = some m') : dLe m m' := by
  unfold pB at h
  split at h
  · exact dLe_pV h
  · cases h
theorem dLe_sI {e : dEnv} {m m' : dMem} {kd a : Nat} {i x : Int32} (h : sI e m kd a i x = some m') : dLe m m' := by
  unfold sI at h
  split at h
  · split at h
    · cases h; exact dLe_up
    · cases h
  · cases h
theorem dLe_sL {e : dEnv} {m m' : dMem} {kd a : Nat} {i : Int32} {x : Int64} (h : sL e m kd a i x = some m') : dLe m m' := by
  unfold sL at h
  split at h
  · split at h
    · cases h; exact dLe_up
    · cases h
  · cases h
theorem dLe_sD {e : dEnv} {m m' : dMem} {kd a : Nat} {i : Int32} {x : UInt64} (h : sD e m kd a i x = some m') : dLe m m' := by
  unfold sD at h
  split at h
  · split at h
    · cases h; exact dLe_up
    · cases h
  · cases h
theorem dLe_sR {e : dEnv} {m m' : dMem} {kd a x c : Nat} {i : Int32} (h : sR e m kd a i x c = some m') : dLe m m' := by
  unfold sR at h
  split at h
  · split at h
    · cases h; exact dLe_up
    · cases h
  · cases h
theorem dLe_aCp {e : dEnv} {m m' : dMem} {a b : Nat} {sp dp n : Int32} (h : aCp e m a sp b dp n = some m') : dLe m m' := by
  unfold aCp at h
  split at h
  · split at h
    · cases h; exact dLe_up
    · cases h
  · split at h
    · cases h; exact dLe_up
    · cases h
  · cases h
theorem dLe_aCl {e : dEnv} {m m' : dMem} {a : Nat} (h : aCl e m a = some m') : dLe m m' := by
  obtain ⟨n, f, -, -, rfl⟩ := aCl_eq h
  exact ⟨Nat.le_succ _, Nat.le_add_right _ _⟩
theorem dLe_nA {m : dMem} {kd n : Nat} : dLe m (nA m kd n) := ⟨Nat.le_succ _, Nat.le_add_right _ _⟩
theorem dLe_nO {m : dMem} {c n : Nat} {f : Nat → Value} : dLe m (nO m c n f) := ⟨Nat.le_succ _, Nat.le_add_right _ _⟩
section MONO
variable {e : dEnv} {cl : Nat → List Value → dMem → Option dRes} {jp : Nat → dLs → List Value → dMem → Option dRes} {hd : Nat → Option Nat}
theorem dLe_call (hcl : ∀ j as m o m', cl j as m = some (o, m') → dLe m m') (hjp : ∀ lbl ls st m o m', jp lbl ls st m = some (o, m') → dLe m m')
    {r1 r2 r3 r4 : Nat} {ls : dLs} {st : List Value} {m : dMem} {k : List Value → dMem → Option dRes} {o : Option Value ⊕ Nat} {m' : dMem} (hk : ∀ t m1, k t m1 = some (o, m') → dLe m1 m') (h : dCall cl jp hd r1 r2 r3 r4 ls st m k = some (o, m')) : dLe m m' := by
  unfold dCall at h
  split at h
  · rename_i as rest hs
    cases hb : Nat.ble (dSum rest) 8 with
    | false => rw [hb] at h; cases h
    | true =>
      rw [hb] at h
      simp only [cond_true] at h
      have hx : ∀ (E : Nat) (m1 : dMem), dLe m m1 → (bif Nat.beq r4 1 then hJ hd jp ls else dPass) E m1 = some (o, m') → dLe m m' := by
        intro E m1 h1 h2
        cases hr : Nat.beq r4 1 with
        | false =>
          rw [hr] at h2
          simp only [cond_false, dPass] at h2
          cases h2
          exact h1
        | true =>
          rw [hr] at h2
          simp only [cond_true, hJ] at h2
          cases hE : Nat.ble E 3 with
          | false =>
            rw [hE] at h2
            simp only [cond_false] at h2
            cases h2; exact h1
          | true =>
            rw [hE] at h2
            simp only [cond_true] at h2
            split at h2
            · exact h1.tr (hjp _ _ _ _ _ _ h2)
            · cases h2; exact h1
      cases hc : cl r1 as m with
      | none => 
        rw [hc] at h
        unfold dK at h
        split at h <;> first | (simp [kV] at h; done) | (simp [kI] at h; done) | (simp [kL] at h; done) | (simp [kF] at h; done) | (simp [kD] at h; done) | (simp [kR] at h; done) | (cases h; done)
      | some r =>
        obtain ⟨o1, m1⟩ := r
        have h1 := hcl _ _ _ _ _ hc
        rw [hc] at h
        unfold dK at h
        split at h
        · unfold kV at h
          split at h
          · rename_i heq; cases heq; exact h1.tr (hk _ _ h)
          · rename_i heq; cases heq; exact hx _ _ h1 h
          · cases h
        · unfold kI at h
          split at h
          · rename_i heq; cases heq; exact h1.tr (hk _ _ h)
          · rename_i heq; cases heq; exact hx _ _ h1 h
          · cases h
        · unfold kL at h
          split at h
          · rename_i heq; cases heq; exact h1.tr (hk _ _ h)
          · rename_i heq; cases heq; exact hx _ _ h1 h
          · cases h
        · unfold kF at h
          split at h
          · rename_i heq; cases heq; exact h1.tr (hk _ _ h)
          · rename_i heq; cases heq; exact hx _ _ h1 h
          · cases h
        · unfold kD at h
          split at h
          · rename_i heq; cases heq; exact h1.tr (hk _ _ h)
          · rename_i heq; cases heq; exact hx _ _ h1 h
          · cases h
        · unfold kR at h
          split at h
          · rename_i heq; cases heq; exact h1.tr (hk _ _ h)
          · rename_i heq; cases heq; exact hx _ _ h1 h
          · cases h
        · cases h
  · cases h
set_option maxHeartbeats 4000000 in
theorem dx_mono (hcl : ∀ j as m o m', cl j as m = some (o, m') → dLe m m') (hjp : ∀ lbl ls st m o m', jp lbl ls st m = some (o, m') → dLe m m') :
    ∀ (ops : List dOp) (ls : dLs) (st : List Value) (m : dMem) (o : Option Value ⊕ Nat) (m' : dMem), dx e cl jp hd ops ls st m = some (o, m') → dLe m m'
  | [], ls, st, m, o, m', h => by cases h
  | (ins, pc, ln, r1, r2, r3, r4) :: ops, ls, st, m, o, m', h => by
    have ih := dx_mono hcl hjp ops
    have hk : ∀ t m1, (fun st m => dx e cl jp hd ops ls st m) t m1 = some (o, m') → dLe m1 m' := fun t m1 h => ih _ _ _ _ _ h
    cases ins with
    | invokevirtual i =>
      simp only [dx] at h
      repeat' split at h
      all_goals first
        | (cases h; done)
        | exact dLe_call hcl hjp hk h
        | (cases hb : Nat.ble (dSum ‹List Value›) 8 with
           | false => rw [hb] at h; cases h
           | true =>
             rw [hb] at h
             simp only [cond_true] at h
             obtain ⟨m1, h1, h2⟩ := Option.bind_eq_some_iff.mp h
             exact (dLe_aCl h1).tr (ih _ _ _ _ _ h2))
    | invokeinterface i k =>
      simp only [dx] at h
      split at h
      · rename_i a _
        cases hb : isC m a 1 with
        | true =>
          rw [hb] at h
          exact dLe_call hcl hjp hk h
        | false =>
          rw [hb] at h
          simp only [cond_false] at h
          cases hb2 : isC m a 0 with
          | true =>
            rw [hb2] at h
            exact dLe_call hcl hjp hk h
          | false =>
            rw [hb2] at h
            cases h
      · cases h
    | checkcast i =>
      simp only [dx] at h
      split at h
      · rename_i a _
        cases hb : isB e m a with
        | true =>
          rw [hb] at h
          exact ih _ _ _ _ _ h
        | false =>
          rw [hb] at h
          cases h
      · cases h
    | invokestatic i =>
      simp only [dx] at h
      repeat' split at h
      all_goals first
        | (cases h; done)
        | exact ih _ _ _ _ _ h
        | exact dLe_call hcl hjp hk h
        | (cases hb : Nat.ble (dSum ‹List Value›) 8 with
           | false => rw [hb] at h; cases h
           | true =>
             rw [hb] at h
             simp only [cond_true] at h
             first
               | exact ih _ _ _ _ _ h
               | (obtain ⟨m1, h1, h2⟩ := Option.bind_eq_some_iff.mp h; exact (dLe_aCp h1).tr (ih _ _ _ _ _ h2))
               | (cases h; done))
    | invokespecial i =>
      simp only [dx] at h
      repeat' split at h
      all_goals first
        | (cases h; done)
        | exact dLe_call hcl hjp hk h
        | (cases hb : Nat.ble (dSum ‹List Value›) 8 with
           | false => rw [hb] at h; cases h
           | true =>
             rw [hb] at h
             simp only [cond_true] at h
             exact ih _ _ _ _ _ h)
    | putfield i =>
      simp only [dx] at h
      repeat' split at h
      all_goals first
        | (cases h; done)
        | (obtain ⟨m1, h1, h2⟩ := Option.bind_eq_some_iff.mp h
           first
             | exact (dLe_pV (show pV _ _ _ _ _ _ = _ from h1)).tr (ih _ _ _ _ _ h2)
             | exact (dLe_pZ h1).tr (ih _ _ _ _ _ h2)
             | exact (dLe_pB h1).tr (ih _ _ _ _ _ h2))
    | iastore =>
      simp only [dx] at h
      split at h
      · obtain ⟨m1, h1, h2⟩ := Option.bind_eq_some_iff.mp h
        exact (dLe_sI h1).tr (ih _ _ _ _ _ h2)
      · cases h
    | bastore =>
      simp only [dx] at h
      repeat' split at h
      all_goals first
        | (cases h; done)
        | (obtain ⟨m1, h1, h2⟩ := Option.bind_eq_some_iff.mp h; exact (dLe_sI h1).tr (ih _ _ _ _ _ h2))
    | lastore =>
      simp only [dx] at h
      split at h
      · obtain ⟨m1, h1, h2⟩ := Option.bind_eq_some_iff.mp h
        exact (dLe_sL h1).tr (ih _ _ _ _ _ h2)
      · cases h
    | dastore =>
      simp only [dx] at h
      split at h
      · obtain ⟨m1, h1, h2⟩ := Option.bind_eq_some_iff.mp h
        exact (dLe_sD h1).tr (ih _ _ _ _ _ h2)
      · cases h
    | aastore =>
      simp only [dx] at h
      split at h
      · obtain ⟨m1, h1, h2⟩ := Option.bind_eq_some_iff.mp h
        exact (dLe_sR h1).tr (ih _ _ _ _ _ h2)
      · cases h
    | new i =>
      simp only [dx] at h
      repeat' split at h
      all_goals first
        | (cases h; done)
        | (exact dLe_nO.tr (ih _ _ _ _ _ h))
        | (simp only [dTh, Option.some.injEq, Prod.mk.injEq] at h; obtain ⟨-, h⟩ := h; rw [← h]; exact ⟨Nat.le_succ _, Nat.le_add_right _ _⟩)
    | newarray i =>
      simp only [dx] at h
      repeat' split at h
      all_goals first
        | (cases h; done)
        | (exact dLe_nA.tr (ih _ _ _ _ _ h))
    | anewarray i =>
      simp only [dx] at h
      repeat' split at h
      all_goals first
        | (cases h; done)
        | (exact dLe_nA.tr (ih _ _ _ _ _ h))
    | ireturn =>
      simp only [dx, rI, rZ, rC, rB] at h
      repeat' split at h
      all_goals (cases h; try exact dLe.rf)
    | _ =>
      first
        | (simp only [dx] at h; done)
        | (simp only [dx] at h
           repeat' split at h
           all_goals first
             | (cases h; done)
             | exact ih _ _ _ _ _ h
             | exact hjp _ _ _ _ _ _ h
             | (obtain ⟨x, h1, h2⟩ := Option.bind_eq_some_iff.mp h; exact ih _ _ _ _ _ h2)
             | (cases h; exact dLe.rf))
        | (exfalso; simp [dx] at h; done)
end MONO

/-! ===== quotients, compared ===== -/
theorem avg_fn {a b : Int32} (hb : b ≠ 0) : FP.Core.fIsNaN (FP.fdiv (FP.i2f a) (FP.i2f b)) = false := FP.Core.fdiv_out (FP.Core.i2f_fin a).notNaN (FP.Core.i2f_fin b) (fun h => FP.Core.i2f_ne_zero hb ((FP.Core.zero_bits232 _).mp h))
theorem f2d_n {f : UInt32} (h : FP.Core.fIsNaN f = false) : FP.f2d f &&& 0x7fffffffffffffff ≤ 0x7ff0000000000000 ∧ FP.Core.dIsNaN (FP.f2d f) = false := by
  have h3 : FP.f2d f = FP.Core.f2d f := if_neg (by rw [h]; exact Bool.false_ne_true)
  have h2 : FP.Core.dIsNaN (FP.Core.f2d f) = false := FP.Core.f2d_out h
  rw [h3]
  refine ⟨?_, h2⟩
  refine and63 _ ?_
  refine Nat.le_of_not_lt fun h => ?_
  have := (FP.Core.isNaN_bits _).mpr h
  exact Bool.false_ne_true (h2.symm.trans this)
theorem dcmp_n {v : UInt64} (h : FP.Core.dIsNaN v = false) : Op.cmpValue (FP.dcmp v v) .l = Int32.ofNat 0 := by
  have h1 : FP.dcmp v v = some .eq := FP.Core.dcmp_self ((FP.Core.notNaN_iff v).mp h)
  rw [h1]
  rfl

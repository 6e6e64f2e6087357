/-! ===== quotients of numbers are numbers (the true text: wip/whole/later) ===== -/
theorem avg_d {a b : Int32} (hb : b ≠ 0) : FP.ddiv (FP.i2d a) (FP.i2d b) &&& 0x7fffffffffffffff ≤ 0x7ff0000000000000 := sorry
theorem avg_f {a b : Int32} (hb : b ≠ 0) : FP.fdiv (FP.i2f a) (FP.i2f b) &&& 0x7fffffff ≤ 0x7f800000 := sorry

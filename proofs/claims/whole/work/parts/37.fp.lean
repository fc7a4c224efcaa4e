/-! NO NaN: quotients of whole numbers -/
theorem fp_d (a : Int32) {b : Int32} (h : b ≠ 0) : vf_n64 (FP.ddiv (FP.i2d a) (FP.i2d b)) := sorry
theorem fp_f (a : Int32) {b : Int32} (h : b ≠ 0) : vf_n32 (FP.fdiv (FP.i2f a) (FP.i2f b)) := sorry
theorem fp_c (a : Int32) {b : Int32} (h : b ≠ 0) : vf_n64 (FP.f2d (FP.fdiv (FP.i2f a) (FP.i2f b))) := sorry

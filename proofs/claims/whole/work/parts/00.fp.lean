/-! NO NaN: quotients of whole numbers -/
theorem fp_n64 {r : UInt64} (h : FP.Core.dIsNaN r = false) : vf_n64 r := by
  have h2 : ¬ 9218868437227405312 < r.toNat % 2 ^ 63 := fun z => by rw [(FP.Core.isNaN_bits r).mpr z] at h; cases h
  unfold vf_n64
  rw [UInt64.le_iff_toNat_le, UInt64.toNat_and]
  have h3 : (0x7fffffffffffffff : UInt64).toNat = 2 ^ 63 - 1 := by decide
  have h4 : (0x7ff0000000000000 : UInt64).toNat = 9218868437227405312 := by decide
  rw [h3, h4, Nat.and_two_pow_sub_one_eq_mod]
  omega
theorem fp_n32 {r : UInt32} (h : FP.Core.fIsNaN r = false) : vf_n32 r := by
  have h2 : ¬ 2139095040 < r.toNat % 2 ^ 31 := fun z => by rw [(FP.Core.isNaN_bits32 r).mpr z] at h; cases h
  unfold vf_n32
  rw [UInt32.le_iff_toNat_le, UInt32.toNat_and]
  have h3 : (0x7fffffff : UInt32).toNat = 2 ^ 31 - 1 := by decide
  have h4 : (0x7f800000 : UInt32).toNat = 2139095040 := by decide
  rw [h3, h4, Nat.and_two_pow_sub_one_eq_mod]
  omega
theorem fp_i2d (a : Int32) : FP.Core.dIsNaN (FP.Core.i2d a) = false := by
  have h := (FP.Core.fin_bits _).mp (FP.Core.i2d_fin a)
  cases hx : FP.Core.dIsNaN (FP.Core.i2d a) with
  | false => rfl
  | true =>
    have h2 := (FP.Core.isNaN_bits _).mp hx
    omega
theorem fp_i2f (a : Int32) : FP.Core.fIsNaN (FP.Core.i2f a) = false := by
  have h := (FP.Core.fin_bits32 _).mp (FP.Core.i2f_fin a)
  cases hx : FP.Core.fIsNaN (FP.Core.i2f a) with
  | false => rfl
  | true =>
    have h2 := (FP.Core.isNaN_bits32 _).mp hx
    omega
theorem fp_fz (a : Int32) {b : Int32} (h : b ≠ 0) : FP.Core.fIsNaN (FP.Core.fdiv (FP.Core.i2f a) (FP.Core.i2f b)) = false :=
  FP.Core.fdiv_out (fp_i2f a) (FP.Core.i2f_fin b) (fun z => FP.Core.i2f_ne_zero h ((FP.Core.zero_bits232 _).mp z))
theorem fp_d (a : Int32) {b : Int32} (h : b ≠ 0) : vf_n64 (FP.ddiv (FP.i2d a) (FP.i2d b)) :=
  fp_n64 (FP.Core.ddiv_out (fp_i2d a) (FP.Core.i2d_fin b) (fun z => FP.Core.i2d_ne_zero h ((FP.Core.zero_bits2 _).mp z)))
theorem fp_f (a : Int32) {b : Int32} (h : b ≠ 0) : vf_n32 (FP.fdiv (FP.i2f a) (FP.i2f b)) := fp_n32 (fp_fz a h)
theorem fp_c (a : Int32) {b : Int32} (h : b ≠ 0) : vf_n64 (FP.f2d (FP.fdiv (FP.i2f a) (FP.i2f b))) :=
  fp_n64 (by
    have e : FP.Core.fIsNaN (FP.fdiv (FP.i2f a) (FP.i2f b)) = false := fp_fz a h
    unfold FP.f2d
    rw [if_neg (by rw [e]; decide), FP.Core.f2d_nan]
    exact e)

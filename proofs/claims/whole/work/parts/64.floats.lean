/-! ===== floats: no NaN ===== -/
theorem n64_of {r : UInt64} (h : Jvm.FP.Core.dIsNaN r = false) : vf_n64 r := by
  unfold vf_n64
  rw [UInt64.le_iff_toNat_le, UInt64.toNat_and]
  have h1 : ¬ (9218868437227405312 < r.toNat % 2 ^ 63) := fun q => by
    rw [(Jvm.FP.Core.isNaN_bits r).mpr q] at h
    cases h
  have e1 : (0x7fffffffffffffff : UInt64).toNat = 2 ^ 63 - 1 := by decide
  have e2 : (0x7ff0000000000000 : UInt64).toNat = 9218868437227405312 := by decide
  rw [e1, e2, Nat.and_two_pow_sub_one_eq_mod]
  omega
theorem n32_of {r : UInt32} (h : Jvm.FP.Core.fIsNaN r = false) : vf_n32 r := by
  unfold vf_n32
  rw [UInt32.le_iff_toNat_le, UInt32.toNat_and]
  have h1 : ¬ (2139095040 < r.toNat % 2 ^ 31) := fun q => by
    rw [(Jvm.FP.Core.isNaN_bits32 r).mpr q] at h
    cases h
  have e1 : (0x7fffffff : UInt32).toNat = 2 ^ 31 - 1 := by decide
  have e2 : (0x7f800000 : UInt32).toNat = 2139095040 := by decide
  rw [e1, e2, Nat.and_two_pow_sub_one_eq_mod]
  omega
theorem div_d (s : Int32) : Jvm.FP.Core.dIsNaN (FP.ddiv (FP.i2d s) 4616189618054758400) = false := by
  refine Jvm.FP.Core.ddiv_out ?_ ?_ ?_
  · rw [Bool.eq_false_iff]
    intro q
    have h1 := (Jvm.FP.Core.isNaN_bits _).mp q
    have h2 := (Jvm.FP.Core.fin_bits _).mp (Jvm.FP.Core.i2d_fin s)
    have h3 : (FP.i2d s).toNat = (Jvm.FP.Core.i2d s).toNat := rfl
    omega
  · rw [Jvm.FP.Core.fin_bits]
    decide
  · rw [Jvm.FP.Core.zero_bits2]
    decide
theorem div_f (a : Int32) {b : Int32} (hb : b ≠ 0) : Jvm.FP.Core.fIsNaN (FP.fdiv (FP.i2f a) (FP.i2f b)) = false := by
  refine Jvm.FP.Core.fdiv_out ?_ (Jvm.FP.Core.i2f_fin b) ?_
  · rw [Bool.eq_false_iff]
    intro q
    have h1 := (Jvm.FP.Core.isNaN_bits32 _).mp q
    have h2 := (Jvm.FP.Core.fin_bits32 _).mp (Jvm.FP.Core.i2f_fin a)
    have h3 : (FP.i2f a).toNat = (Jvm.FP.Core.i2f a).toNat := rfl
    omega
  · rw [Jvm.FP.Core.zero_bits232]
    exact Jvm.FP.Core.i2f_ne_zero hb

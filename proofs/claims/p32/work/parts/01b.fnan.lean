/-! no NaN -/
theorem zn64 {x : UInt64} (h : FP.Core.dIsNaN x = false) : vf_n64 x := by
  unfold vf_n64
  rw [UInt64.le_iff_toNat_le, UInt64.toNat_and]
  have h1 : (0x7fffffffffffffff : UInt64).toNat = 2 ^ 63 - 1 := by decide
  have h2 : (0x7ff0000000000000 : UInt64).toNat = 9218868437227405312 := by decide
  rw [h1, h2, Nat.and_two_pow_sub_one_eq_mod]
  rw [← Bool.not_eq_true, FP.Core.isNaN_bits] at h
  omega
theorem zn32 {x : UInt32} (h : FP.Core.fIsNaN x = false) : vf_n32 x := by
  unfold vf_n32
  rw [UInt32.le_iff_toNat_le, UInt32.toNat_and]
  have h1 : (0x7fffffff : UInt32).toNat = 2 ^ 31 - 1 := by decide
  have h2 : (0x7f800000 : UInt32).toNat = 2139095040 := by decide
  rw [h1, h2, Nat.and_two_pow_sub_one_eq_mod]
  rw [← Bool.not_eq_true, FP.Core.isNaN_bits32] at h
  omega
theorem zdiv_nan {x y : Int32} (hy : ¬ y = 0) : vf_n64 (FP.ddiv (FP.i2d x) (FP.i2d y)) := zn64 (FP.Core.ddiv_out (FP.Core.i2d_fin x).notNaN (FP.Core.i2d_fin y) (fun h => FP.Core.i2d_ne_zero hy ((FP.Core.zero_bits2 _).mp h)))
theorem zmean_nan {x : Int32} : vf_n32 (FP.fdiv (FP.i2f x) 1098907648) := zn32 (FP.Core.fdiv_out (FP.Core.i2f_fin x).notNaN ((FP.Core.fin_bits32 _).mpr (by decide)) (fun h => absurd ((FP.Core.zero_bits232 _).mp h) (by decide)))
theorem zspread_nan {x : Int64} : vf_n64 (FP.ddiv (FP.l2d x) 4643211215818981376) := zn64 (FP.Core.ddiv_out (FP.Core.l2d_fin x).notNaN ((FP.Core.fin_bits _).mpr (by decide)) (fun h => absurd ((FP.Core.zero_bits2 _).mp h) (by decide)))

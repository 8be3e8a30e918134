/-! quotients of numbers are no NaN -/
theorem fl_n64 {a : UInt64} (h : FP.Core.dIsNaN a = false) : a &&& 0x7fffffffffffffff ≤ 0x7ff0000000000000 := by
  rw [UInt64.le_iff_toNat_le, FP.Core.mask_toNat]
  exact (FP.Core.ne_nan a).mp ((FP.Core.notNaN_iff a).mp h)
theorem fl_n32 {a : UInt32} (h : FP.Core.fIsNaN a = false) : a &&& 0x7fffffff ≤ 0x7f800000 := by
  rw [UInt32.le_iff_toNat_le, FP.Core.mask_toNat32]
  exact (FP.Core.ne_nan32 a).mp ((FP.Core.notNaN_iff32 a).mp h)
theorem fl_c64 {a : UInt64} (h : FP.Core.dIsNaN a = false) : Op.cmpValue (FP.dcmp a a) CmpOp.l = 0 := by
  rw [FP.dcmp_core, FP.Core.dcmp_refl h]
  rfl
theorem fl_d (x y : Int32) (h : y ≠ 0) : FP.ddiv (FP.i2d x) (FP.i2d y) &&& 0x7fffffffffffffff ≤ 0x7ff0000000000000 ∧ Op.cmpValue (FP.dcmp (FP.ddiv (FP.i2d x) (FP.i2d y)) (FP.ddiv (FP.i2d x) (FP.i2d y))) CmpOp.l = 0 := by
  have hn : FP.Core.dIsNaN (FP.ddiv (FP.i2d x) (FP.i2d y)) = false := by
    rw [FP.ddiv_core, FP.i2d_core]
    exact FP.Core.ddiv_out ((FP.Core.notNaN_iff _).mpr ((FP.Core.ne_nan _).mpr (Nat.le_of_lt ((FP.Core.fin_bits _).mp (FP.Core.i2d_fin x))))) (FP.Core.i2d_fin y) (fun z => FP.Core.i2d_ne_zero h ((FP.Core.zero_bits2 _).mp z))
  exact ⟨fl_n64 hn, fl_c64 hn⟩
theorem fl_f (x y : Int32) (h : y ≠ 0) : FP.fdiv (FP.i2f x) (FP.i2f y) &&& 0x7fffffff ≤ 0x7f800000 ∧ vf_n64 (FP.f2d (FP.fdiv (FP.i2f x) (FP.i2f y))) ∧ Op.cmpValue (FP.dcmp (FP.f2d (FP.fdiv (FP.i2f x) (FP.i2f y))) (FP.f2d (FP.fdiv (FP.i2f x) (FP.i2f y)))) CmpOp.l = 0 := by
  have hn : FP.Core.fIsNaN (FP.fdiv (FP.i2f x) (FP.i2f y)) = false := by
    rw [FP.fdiv_core, FP.i2f_core]
    exact FP.Core.fdiv_out ((FP.Core.notNaN_iff32 _).mpr ((FP.Core.ne_nan32 _).mpr (Nat.le_of_lt ((FP.Core.fin_bits32 _).mp (FP.Core.i2f_fin x))))) (FP.Core.i2f_fin y) (fun z => FP.Core.i2f_ne_zero h ((FP.Core.zero_bits232 _).mp z))
  have hd : FP.Core.dIsNaN (FP.f2d (FP.fdiv (FP.i2f x) (FP.i2f y))) = false := (FP.f2d_nan _).trans hn
  exact ⟨fl_n32 hn, fl_n64 hd, fl_c64 hd⟩
theorem fl_0 : vf_n64 (FP.f2d FP.fconst0) ∧ Op.cmpValue (FP.dcmp (FP.f2d FP.fconst0) (FP.f2d FP.fconst0)) CmpOp.l = 0 := by
  have hd : FP.Core.dIsNaN (FP.f2d FP.fconst0) = false := (FP.f2d_nan _).trans (by decide +kernel)
  exact ⟨fl_n64 hd, fl_c64 hd⟩

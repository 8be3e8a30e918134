/-! quotients of numbers are no NaN -/
theorem fl_d (x y : Int32) (h : y ≠ 0) : FP.ddiv (FP.i2d x) (FP.i2d y) &&& 0x7fffffffffffffff ≤ 0x7ff0000000000000 ∧ Op.cmpValue (FP.dcmp (FP.ddiv (FP.i2d x) (FP.i2d y)) (FP.ddiv (FP.i2d x) (FP.i2d y))) CmpOp.l = 0 := sorry
theorem fl_f (x y : Int32) (h : y ≠ 0) : FP.fdiv (FP.i2f x) (FP.i2f y) &&& 0x7fffffff ≤ 0x7f800000 ∧ vf_n64 (FP.f2d (FP.fdiv (FP.i2f x) (FP.i2f y))) ∧ Op.cmpValue (FP.dcmp (FP.f2d (FP.fdiv (FP.i2f x) (FP.i2f y))) (FP.f2d (FP.fdiv (FP.i2f x) (FP.i2f y)))) CmpOp.l = 0 := sorry
theorem fl_0 : vf_n64 (FP.f2d FP.fconst0) ∧ Op.cmpValue (FP.dcmp (FP.f2d FP.fconst0) (FP.f2d FP.fconst0)) CmpOp.l = 0 := sorry

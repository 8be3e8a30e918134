/-! a quotient of small numbers: no NaN, and its sign is the dividend's -/
theorem fl_n32 {a : UInt32} (h : FP.Core.fIsNaN a = false) : a &&& 0x7fffffff ≤ 0x7f800000 := by
  rw [UInt32.le_iff_toNat_le, FP.Core.mask_toNat32]
  exact (FP.Core.ne_nan32 a).mp ((FP.Core.notNaN_iff32 a).mp h)
theorem fl_z {x : Int32} (hx : x.toInt.natAbs ≤ 600) : ∃ s c q, FP.Core.val32 (FP.Core.i2f x) = .fin s c q ∧ FP.Core.b32.qmin ≤ q ∧ FP.Core.signed s (c * 2 ^ (q - FP.Core.b32.qmin).toNat) = x.toInt * (FP.Core.one32 : Int) := by
  obtain ⟨s, c, q, h⟩ := FP.Core.i2f_fin x
  have hf := FP.Core.val32_fits (FP.Core.i2f x)
  have hz := FP.Core.FInt_zval (FP.Core.i2f_int (a := x) (by omega))
  rw [h] at hf hz
  exact ⟨s, c, q, h, hf.2.1, hz⟩
theorem fl_P : (36 : Int) < (FP.Core.one32 : Int) := by
  show (36 : Int) < ((2 ^ 149 : Nat) : Int)
  decide
theorem fl_ok (x y : Int32) (hx : x.toInt.natAbs ≤ 600) (hy1 : 1 ≤ y.toInt) (hy : y.toInt ≤ 36) : FP.fdiv (FP.i2f x) (FP.i2f y) &&& 0x7fffffff ≤ 0x7f800000 ∧ (Op.cmpValue (FP.fcmp (FP.fdiv (FP.i2f x) (FP.i2f y)) FP.fconst0) .l ≤ 0 ↔ x.toInt ≤ 0) := by
  have hyn : y ≠ 0 := fun e => by rw [e] at hy1; exact absurd hy1 (by decide)
  rw [FP.fdiv_core, FP.i2f_core, FP.fcmp_core, FP.fconst0_core]
  have hn : FP.Core.fIsNaN (FP.Core.fdiv (FP.Core.i2f x) (FP.Core.i2f y)) = false :=
    FP.Core.fdiv_out ((FP.Core.notNaN_iff32 _).mpr ((FP.Core.ne_nan32 _).mpr (Nat.le_of_lt ((FP.Core.fin_bits32 _).mp (FP.Core.i2f_fin x))))) (FP.Core.i2f_fin y) (fun z => FP.Core.i2f_ne_zero hyn ((FP.Core.zero_bits232 _).mp z))
  refine ⟨fl_n32 hn, ?_⟩
  have hnn := (FP.Core.notNaN_iff32 _).mp hn
  obtain ⟨s, c, q, a1, a2, a3⟩ := fl_z hx
  obtain ⟨t, d, r, b1, b2, b3⟩ := fl_z (x := y) (by omega)
  have hv : FP.Core.val32 (FP.Core.fdiv (FP.Core.i2f x) (FP.Core.i2f y)) = FP.Core.quotient FP.Core.b32 (.fin s c q) (.fin t d r) := by rw [FP.Core.val32_fdiv, a1, b1]
  have hP := fl_P
  have h0 : FP.Core.val32 FP.Core.fconst0 ≠ .nan := by rw [FP.Core.val32_fconst0]; exact FP.Core.Datum.noConfusion
  have hz0 : FP.Core.zval FP.Core.b32 (FP.Core.val32 FP.Core.fconst0) = 0 := by rw [FP.Core.val32_fconst0]; decide
  -- the divisor
  have hyP : (1 : Int) * (FP.Core.one32 : Int) ≤ y.toInt * (FP.Core.one32 : Int) := Int.mul_le_mul_of_nonneg_right hy1 (by omega)
  have hyP2 : y.toInt * (FP.Core.one32 : Int) ≤ 36 * (FP.Core.one32 : Int) := Int.mul_le_mul_of_nonneg_right hy (by omega)
  have ht : t = false := by
    cases t with
    | false => rfl
    | true =>
      exfalso
      have e : FP.Core.signed true (d * 2 ^ (r - FP.Core.b32.qmin).toNat) = -((d * 2 ^ (r - FP.Core.b32.qmin).toNat : Nat) : Int) := rfl
      rw [e] at b3
      omega
  subst ht
  have b4 : ((d * 2 ^ (r - FP.Core.b32.qmin).toNat : Nat) : Int) = y.toInt * (FP.Core.one32 : Int) := b3
  have hd : d ≠ 0 := fun e => by
    rw [e, Nat.zero_mul] at b4
    omega
  have hv : FP.Core.val32 (FP.Core.fdiv (FP.Core.i2f x) (FP.Core.i2f y)) = FP.Core.roundRatio FP.Core.b32 (s != false) c d (q - r) := by
    rw [hv]
    show (if d = 0 then _ else _) = _
    rw [if_neg hd]
  have hsg := FP.Core.sgn_roundRatio FP.Core.b32 (s != false) c d (q - r)
  by_cases hx0 : x.toInt ≤ 0
  · refine ⟨fun _ => hx0, fun _ => ?_⟩
    have hle : FP.Core.zval FP.Core.b32 (FP.Core.val32 (FP.Core.fdiv (FP.Core.i2f x) (FP.Core.i2f y))) ≤ 0 := by
      rw [hv]
      unfold FP.Core.zval
      rw [hsg]
      cases s with
      | true =>
        show -((FP.Core.zmag FP.Core.b32 _ : Nat) : Int) ≤ 0
        omega
      | false =>
        have a4 : ((c * 2 ^ (q - FP.Core.b32.qmin).toNat : Nat) : Int) = x.toInt * (FP.Core.one32 : Int) := a3
        have hxP : x.toInt * (FP.Core.one32 : Int) ≤ 0 * (FP.Core.one32 : Int) := Int.mul_le_mul_of_nonneg_right hx0 (by omega)
        have hc0 : c * 2 ^ (q - FP.Core.b32.qmin).toNat = 0 := by omega
        have hc : c = 0 := (Nat.mul_eq_zero.mp hc0).resolve_right (Nat.pos_iff_ne_zero.mp (Nat.two_pow_pos _))
        subst hc
        have e : FP.Core.roundRatio FP.Core.b32 (false != false) 0 d (q - r) = .fin false 0 FP.Core.b32.qmin := by
          unfold FP.Core.roundRatio
          rw [if_pos rfl]
          rfl
        rw [e]
        decide
    rcases FP.Core.fcmp_le.mpr ⟨hnn, h0, by rw [hz0]; exact hle⟩ with e | e
    · rw [e]; decide
    · rw [e]; decide
  · refine ⟨fun h => ?_, fun h => absurd h hx0⟩
    exfalso
    have hxP : (1 : Int) * (FP.Core.one32 : Int) ≤ x.toInt * (FP.Core.one32 : Int) := Int.mul_le_mul_of_nonneg_right (by omega) (by omega)
    have hs : s = false := by
      cases s with
      | false => rfl
      | true =>
        exfalso
        have e : FP.Core.signed true (c * 2 ^ (q - FP.Core.b32.qmin).toNat) = -((c * 2 ^ (q - FP.Core.b32.qmin).toNat : Nat) : Int) := rfl
        rw [e] at a3
        omega
    subst hs
    have a4 : ((c * 2 ^ (q - FP.Core.b32.qmin).toNat : Nat) : Int) = x.toInt * (FP.Core.one32 : Int) := a3
    have hq := FP.Core.qmin_b32
    have hfit : FP.Core.fits FP.Core.b32 (.fin false 1 FP.Core.b32.qmin) := ⟨by decide, by decide, by decide, Or.inl rfl⟩
    have hm : FP.Core.zmag FP.Core.b32 (.fin false 1 FP.Core.b32.qmin) = 1 := by decide
    have hge := FP.Core.zmag_roundRatio_ge (f := FP.Core.b32) FP.Core.good_b32 (s := (false != false)) (A := c) (B := d) (e := q - r) (e0 := FP.Core.b32.qmin - (r - FP.Core.b32.qmin)) (V := .fin false 1 FP.Core.b32.qmin) (Nat.pos_of_ne_zero hd) hfit (by omega) (by omega) (by
      rw [hm, Nat.one_mul]
      unfold FP.Core.inUnits
      rw [show FP.Core.b32.qmin - (FP.Core.b32.qmin - (r - FP.Core.b32.qmin)) = r - FP.Core.b32.qmin by omega, show (q - r - (FP.Core.b32.qmin - (r - FP.Core.b32.qmin))).toNat = (q - FP.Core.b32.qmin).toNat + 149 by omega, Nat.pow_add, ← Nat.mul_assoc, Nat.mul_comm _ d]
      have h1 : c * 2 ^ (q - FP.Core.b32.qmin).toNat * 36 ≤ c * 2 ^ (q - FP.Core.b32.qmin).toNat * 2 ^ 149 := Nat.mul_le_mul_left _ (by decide)
      omega)
    rw [hm] at hge
    have hgt : 0 < FP.Core.zval FP.Core.b32 (FP.Core.val32 (FP.Core.fdiv (FP.Core.i2f x) (FP.Core.i2f y))) := by
      rw [hv]
      unfold FP.Core.zval
      rw [hsg]
      show 0 < ((FP.Core.zmag FP.Core.b32 _ : Nat) : Int)
      omega
    have e := FP.Core.fcmp_gt.mpr ⟨hnn, h0, by rw [hz0]; exact hgt⟩
    rw [e] at h
    exact absurd h (by decide)

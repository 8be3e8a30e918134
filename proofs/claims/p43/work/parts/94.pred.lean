/-! predictions -/
theorem cpy_00 {f g : Nat → Int32} {j : Nat} (h : j < 1384) : va_cpy f g 0 0 1384 j = f j := by
  have := cpy_in (f := f) (g := g) (p := 0) (q := 0) h
  rwa [Nat.zero_add] at this
theorem aN6_acc {S : AS} {c b : Nat} {w : Int32} : aN (aAcc S c b w) 6 = aN S 6 := by
  show aN (aMd (aS2 S c b w) b (aSc S c b)) 6 = _
  rw [aN_md (by decide) (by decide) (by decide) (by decide) (by decide) (by decide) (by decide), aN_s2 (by decide) (by decide) (Or.inl (by decide))]

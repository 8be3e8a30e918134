/-! a read, a write's end -/
section MM
variable {d e : Int32} {a : Nat → Int32} {S : AS} {U : Nat → Nat → Prop}
theorem md_c3 {S : AS} {c b : Nat} {s : Int32} {f : Nat} (hf : f = 3 ∨ f = 4) : aC (aMd (aM4 S c b) b s) c f = aC S c f := by
  rw [aC_md]
  show aC (uC (uN (aRL (aT0 S (aSc S c b)) c b) _ _) c (5 + aK S b) _) c f = _
  rw [aC_uC, if_neg (by omega)]
  show aC (uC (uC (aT0 S (aSc S c b)) c 1 _) c 2 _) c f = _
  rw [aC_uC, if_neg (by omega), aC_uC, if_neg (by omega)]
  unfold aT0
  split <;> rfl
theorem md_n6 {S : AS} {c b : Nat} {s : Int32} : aN (aMd (aM4 S c b) b s) 6 = aN S 6 := by
  rw [aN_md (by decide) (by decide) (by decide) (by decide) (by decide) (by decide) (by decide)]
  show aN (uN (aRL (aT0 S (aSc S c b)) c b) (14 + aK S b) _) 6 = _
  rw [aN_ne (by omega)]
  exact aN6_T S _ c b
end MM

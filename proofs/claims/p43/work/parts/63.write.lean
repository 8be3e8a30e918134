/-! the model's whole access; the end of a write -/
theorem Inv_uN {S : AS} {k : Nat} {v : Int32} (hk : k = 5 ∨ 14 ≤ k) (h : Inv (uN S k v)) : Inv S := by
  obtain ⟨⟨hL, hW, hU, hC, hH, hS⟩, hB⟩ := h
  have e (j : Nat) (hj : j < 14 ∧ j ≠ 5) : aN (uN S k v) j = aN S j := aN_ne (by omega)
  unfold lowOk at hW
  unfold upOk at hU
  unfold cliOk at hC
  unfold hdOk aHd at hH
  unfold setOk at hS
  rw [e 3 (by decide)] at hW
  rw [e 2 (by decide), e 4 (by decide)] at hU
  rw [e 6 (by decide)] at hC
  rw [e 13 (by decide)] at hH
  rw [e 0 (by decide), e 1 (by decide)] at hS
  exact ⟨⟨hL, hW, hU, hC, hH, hS⟩, fun x hx => (hB x hx).congr (fun _ _ => Iff.rfl) (fun _ _ => rfl) (e 6 (by decide)).symm⟩
theorem aB_T (S : AS) (s : Int32) (c b f x : Nat) : aB (aRL (aT0 S s) c b) f x = aB S f x := by
  show aB (aT0 S s) f x = _
  unfold aT0
  split <;> rfl
theorem aN6_T (S : AS) (s : Int32) (c b : Nat) : aN (aRL (aT0 S s) c b) 6 = aN S 6 := by
  show aN (aT0 S s) 6 = _
  unfold aT0
  split <;> rfl
theorem md_0 {S : AS} {b l : Nat} (hk : aK S b = 0) (hl : l < 3) (e : aB S 0 b = nI l) : aMd S b 0 = aMt S b l 1 := by
  unfold aMd
  rw [if_pos hk, if_pos rfl, e, nI_clamp (by omega)]
theorem md_1 {S : AS} {b : Nat} {s : Int32} (hk : aK S b = 0) (hs : s ≠ 0) : aMd S b s = S := by
  unfold aMd
  rw [if_pos hk, if_neg hs]
theorem md_c {S : AS} {b : Nat} (hk : aK S b ≠ 0) : aMd S b 0 = aCome S b := by
  unfold aMd
  rw [if_neg hk, if_pos rfl]
theorem md_s {S : AS} {b : Nat} {s : Int32} (hk : aK S b ≠ 0) (hs : s ≠ 0) : aMd S b s = aScan S b := by
  unfold aMd
  rw [if_neg hk, if_neg hs]
section MM
variable {d e : Int32} {a : Nat → Int32} {S : AS} {U : Nat → Nat → Prop}
end MM

/-! the model's steps of an access -/
theorem aB_wuN {S : AS} {y f x : Nat} (h3 : f ≠ 3) (h5 : f ≠ 5) : aB (aWU S y) f x = aB S f x := by
  show aB (uB (uB S 5 y (aB S 1 y)) 3 y (-1)) f x = _
  rw [aB_nf h3, aB_nf h5]
theorem aB_cl {S : AS} {y f x : Nat} (h3 : f ≠ 3) (h5 : f ≠ 5) : aB (aCl S y) f x = aB S f x := by
  unfold aCl
  split
  · rfl
  · exact aB_wuN h3 h5
theorem aB_MR0 (S : AS) (x : Nat) : aB (aMR S) 0 x = @ite _ (aLow S ∧ x = aX S) (@instDecidableAnd _ _ (inferInstanceAs (Decidable (_ = _))) (inferInstanceAs (Decidable (_ = _)))) (-1) (aB S 0 x) := by
  by_cases e : aLow S
  · rw [aMR_t e]
    show aB (uB _ 0 (aX S) (-1)) 0 x = _
    by_cases ex : x = aX S
    · rw [if_pos ⟨e, ex⟩, ex, aB_eq]
    · rw [if_neg (fun q => ex q.2), aB_ne ex]
      show aB (uB (uB (uB (uL (aCl S (aX S)) 2 _) 1 _ _) 2 _ _) 3 _ _) 0 x = _
      rw [aB_ne ex, aB_ne ex, aB_ne ex]
      exact aB_cl (by decide) (by decide)
  · rw [aMR_f e, if_neg (fun q => e q.1)]
theorem aB_MR4 (S : AS) (x : Nat) : aB (aMR S) 4 x = aB S 4 x := by
  by_cases e : aLow S
  · rw [aMR_t e]
    show aB (uB (uB (uB (uB (uL (aCl S (aX S)) 2 _) 1 _ _) 2 _ _) 3 _ _) 0 _ _) 4 x = _
    rw [aB_nf (by decide), aB_nf (by decide), aB_nf (by decide), aB_nf (by decide)]
    exact aB_cl (by decide) (by decide)
  · rw [aMR_f e]
theorem aX_congr {S T : AS} (h2 : aL T 2 = aL S 2) (h3 : ∀ x, aB T 3 x = aB S 3 x) : aX T = aX S := by
  have e (n : Nat) : aLv T n = aLv S n := by
    induction n with
    | zero => rw [aLv, aLv, h2]
    | succ n ih => rw [aLv, aLv, h2, h3, ih]
  unfold aX
  rw [h2]
  exact e _
theorem aMR_uL {S : AS} {g : Nat} {L : List Nat} (hg : g ≠ 2) : aMR (uL S g L) = uL (aMR S) g L := by
  have h2 : aL (uL S g L) 2 = aL S 2 := aL_ne hg.symm
  have hx : aX (uL S g L) = aX S := aX_congr h2 (fun _ => rfl)
  have hl : aLow (uL S g L) ↔ aLow S := by unfold aLow; rw [h2]; rfl
  by_cases e : aLow S
  · rw [aMR_t e, aMR_t (hl.mpr e), hx]
    have hc : aCl (uL S g L) (aX S) = uL (aCl S (aX S)) g L := by
      show (if aB S 3 (aX S) = -1 then _ else _) = uL (if aB S 3 (aX S) = -1 then _ else _) g L
      split <;> rfl
    have hc2 : aL (aCl S (aX S)) 2 = aL S 2 := by unfold aCl; split <;> rfl
    rw [hc]
    show uN (uB (uB (uB (uB (uL (uL (aCl S (aX S)) g L) 2 (pu_rm (aL (uL (aCl S (aX S)) g L) 2) (aX S))) 1 _ _) 2 _ _) 3 _ _) 0 _ _) 20 _ = _
    rw [aL_ne hg.symm, uL_comm hg]
    rfl
  · rw [aMR_f e, aMR_f (fun q => e (hl.mp q))]
theorem uB4_low {S : AS} {y f x : Nat} {v w : Int32} (hf : f ≠ 4) : uB (uB S 4 y v) f x w = uB (uB S f x w) 4 y v := uB_comm (fun q => hf q.1.symm)
theorem aMR_uB4 {S : AS} {y : Nat} {v : Int32} : aMR (uB S 4 y v) = uB (aMR S) 4 y v := by
  have h3 (x : Nat) : aB (uB S 4 y v) 3 x = aB S 3 x := aB_nf (by decide)
  have hx : aX (uB S 4 y v) = aX S := aX_congr rfl h3
  have hl : aLow (uB S 4 y v) ↔ aLow S := Iff.rfl
  by_cases e : aLow S
  · rw [aMR_t e, aMR_t (hl.mpr e), hx]
    have hw (z : Nat) : aWU (uB S 4 y v) z = uB (aWU S z) 4 y v := by
      show uN (uN (uB (uB (uB S 4 y v) 5 z (aB (uB S 4 y v) 1 z)) 3 z (-1)) 13 _) 21 _ = _
      rw [aB_nf (by decide), uB4_low (by decide), uB4_low (by decide)]
      rfl
    have hc : aCl (uB S 4 y v) (aX S) = uB (aCl S (aX S)) 4 y v := by
      unfold aCl
      rw [h3]
      split
      · rfl
      · exact hw _
    rw [hc]
    show uN (uB (uB (uB (uB (uB (uL (aCl S (aX S)) 2 _) 4 y v) 1 _ _) 2 _ _) 3 _ _) 0 _ _) 20 _ = _
    rw [uB4_low (by decide), uB4_low (by decide), uB4_low (by decide), uB4_low (by decide)]
    rfl
  · rw [aMR_f e, aMR_f (fun q => e (hl.mp q))]
theorem aMR_LG (S : AS) (l : Nat) : aMR (aLG S (3 + l)) = aLG (aMR S) (3 + l) := by
  have e1 : aN (aMR S) 2 = aN S 2 := aN_MR (by decide) (by decide) (by decide)
  have e2 : aL (aMR S) (3 + l) = aL S (3 + l) := aL_MR (by omega)
  unfold aLG
  rw [e1, e2]
  split
  · rw [aMR_uB4, aMR_uL (by omega)]
  · rfl
theorem aMR_G2 (S : AS) (x l : Nat) : aMR (aG2 S x l) = aG2 (aMR S) x l := by
  unfold aG2
  rw [aMR_uL (by omega), aMR_uB4, aL_MR (by omega)]
section MM
variable {d e : Int32} {a : Nat → Int32} {S : AS} {U : Nat → Nat → Prop}
end MM

/-! the model's access -/
theorem aLv_uC {S : AS} {c f : Nat} {v : Int32} (n : Nat) : aLv (uC S c f v) n = aLv S n := by
  induction n with
  | zero => rfl
  | succ n ih => rw [aLv, aLv, ih]; rfl
theorem aX_uC {S : AS} {c f : Nat} {v : Int32} : aX (uC S c f v) = aX S := aLv_uC _
theorem aMR_uC {S : AS} {c f : Nat} {v : Int32} : aMR (uC S c f v) = uC (aMR S) c f v := by
  by_cases e : aLow S
  · rw [aMR_t e, aMR_t (show aLow (uC S c f v) from e), aX_uC]
    have hc : aCl (uC S c f v) (aX S) = uC (aCl S (aX S)) c f v := by
      show (if aB S 3 (aX S) = -1 then _ else _) = uC (if aB S 3 (aX S) = -1 then _ else _) c f v
      split <;> rfl
    rw [hc]
    rfl
  · rw [aMR_f e, aMR_f (show ¬ aLow (uC S c f v) from e)]
theorem aLf_uC {S : AS} {c f : Nat} {v x : Int32} : aLf (uC S c f v) x = aLf S x := by
  by_cases e : aLow S
  · rw [aLf_t e, aLf_t (show aLow (uC S c f v) from e), aX_uC]
  · rw [aLf_f e, aLf_f (show ¬ aLow (uC S c f v) from e)]
theorem aSwN_uC {S : AS} {c f : Nat} {v : Int32} (hf : f ≠ 0) (k : Nat) : aSwN (uC S c f v) k = aSwN S k := by
  induction k with
  | zero => rfl
  | succ k ih => rw [aSwN, aSwN, ih, aC_uC, if_neg (fun q => hf q.2.symm)]
theorem aTM_uC {S : AS} {c f x : Nat} {v : Int32} (hf : f ≠ 0) : aTM (uC S c f v) x = aTM S x := by
  have e1 : aSw (uC S c f v) = aSw S := aSwN_uC hf _
  have e2 : aC (uC S c f v) x 0 = aC S x 0 := by rw [aC_uC, if_neg (fun q => hf q.2.symm)]
  unfold aTM
  rw [e1, e2]
  rfl
theorem aVo_uC {S : AS} {c f l : Nat} {v : Int32} (hf : f ≠ 0) (n : Nat) : aVo (uC S c f v) l n = aVo S l n := by
  induction n with
  | zero => rfl
  | succ n ih => rw [aVo, aVo, ih, aTM_uC hf]; rfl
theorem aV_uC {S : AS} {c f : Nat} {v wf : Int32} (hf : f ≠ 0) : aV (uC S c f v) wf = aV S wf := aVo_uC hf _
theorem aDem_uC {S : AS} {c f x l : Nat} {v : Int32} : aDem (uC S c f v) x l = uC (aDem S x l) c f v := by
  have e : aLG (uC S c f v) (3 + l) = uC (aLG S (3 + l)) c f v := by
    show (if aN S 2 = nI (aL S (3 + l)).length then _ else _) = uC (if aN S 2 = nI (aL S (3 + l)).length then _ else _) c f v
    split <;> rfl
  unfold aDem
  rw [e]
  rfl
theorem aMk_uC {S : AS} {c f : Nat} {v wf : Int32} (hf : f ≠ 0) : aMk (uC S c f v) wf = uC (aMk S wf) c f v := by
  by_cases e : aFull S
  · rw [aMk_t e, aMk_t (show aFull (uC S c f v) from e), aMR_uC, aV_uC hf, aDem_uC]
    rfl
  · rw [aMk_f e, aMk_f (show ¬ aFull (uC S c f v) from e)]
theorem aS3_uC {S : AS} {c f b : Nat} {v : Int32} : aS3 (uC S c f v) b = uC (aS3 S b) c f v := by
  have e1 : aTop (uC S c f v) b = uC (aTop S b) c f v := by
    show (if aB S 0 b = 2 then _ else _) = uC (if aB S 0 b = 2 then _ else _) c f v
    split <;> rfl
  have e2 (T : AS) (g : Int32) : aLn (uC T c f v) g = uC (aLn T g) c f v := by
    unfold aLn
    split
    · rfl
    · split <;> rfl
  have e3 (T : AS) : aLG1 (uC T c f v) b = uC (aLG1 T b) c f v := by
    show (if aB T 4 b = -1 then _ else _) = uC (if aB T 4 b = -1 then _ else _) c f v
    split <;> rfl
  unfold aS3
  rw [e1, e2, e3]
  rfl
theorem aMd_uC {S : AS} {c f b : Nat} {v s : Int32} (hf : f ≠ 0) : aMd (uC S c f v) b s = uC (aMd S b s) c f v := by
  have hC : aCome (uC S c f v) b = uC (aCome S b) c f v := by
    unfold aCome
    rw [aS3_uC, aMk_uC hf]
    rfl
  have hS : aScan (uC S c f v) b = uC (aScan S b) c f v := by
    show (if aB S 0 b = 2 then _ else _) = uC (if aB S 0 b = 2 then _ else _) c f v
    split
    · rfl
    · rw [aMR_uC]; rfl
  show (if aK S b = 0 then _ else _) = uC (if aK S b = 0 then _ else _) c f v
  split
  · split <;> rfl
  · rw [hC, hS]
    split <;> rfl
theorem aDm_uC {S : AS} {c f b : Nat} {v s x : Int32} (hf : f ≠ 0) : aDm (uC S c f v) b s x = aDm S b s x := by
  have h1 : aDd (aS3 (uC S c f v) b) b (aB (uC S c f v) 4 b) x = aDd (aS3 S b) b (aB S 4 b) x := by
    rw [aS3_uC]
    unfold aDd
    rw [aV_uC hf]
    rfl
  unfold aDm
  rw [h1]
  rfl
theorem aLe_uC {S : AS} {c f b : Nat} {v s x : Int32} : aLe (uC S c f v) b s x = aLe S b s x := by
  have h1 : aDl (aS3 (uC S c f v) b) x = aDl (aS3 S b) x := by
    rw [aS3_uC]
    unfold aDl
    rw [aLf_uC]
    rfl
  unfold aLe
  rw [h1, aLf_uC]
  rfl
def Un (S : AS) (b f x : Nat) : Prop := x ≠ b ∧ aB S 0 x ≠ -1 ∨ x = b ∧ (f = 1 ∨ f = 3)
section MM
variable {d e : Int32} {a : Nat → Int32} {S : AS} {U : Nat → Nat → Prop}
end MM

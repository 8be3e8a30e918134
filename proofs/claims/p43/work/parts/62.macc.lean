def hNU (S : AS) : Prop := ∀ b, b < 200 → aB S 0 b = -1 → aB S 3 b = -1
/-! the model's access as a whole, the end of a write on both sides -/
theorem Inv.nu {S : AS} (h : Inv S) : hNU S := fun b hb q => ((h.2 b hb).2.2.2.2.1 q).2.2
def aHit (S : AS) (c k : Nat) : AS := uC (uN S (14 + k) (aN S (14 + k) + 1)) c (5 + k) (aC S c (5 + k) + 1)
def aM4 (S : AS) (c b : Nat) : AS := aHit (aRL (aT0 S (aSc S c b)) c b) c (aK S b)
theorem aRun_T0 {S : AS} {c b : Nat} {s : Int32} : aRun (aT0 S s) c b = aRun S c b := by
  unfold aT0
  split <;> rfl
theorem S2_eq (S : AS) (c b : Nat) (w : Int32) : aS2 S c b w = uC (aM4 S c b) c (aRf w) (aC S c (aRf w) + 1) := by
  have hr : aRf w ≠ 2 ∧ aRf w ≠ 1 ∧ aRf w < 5 := by unfold aRf; split <;> decide
  have hk := aK_lt S b
  refine AS_ext (fun j => ?_) (fun l => ?_) (fun d f => ?_) (fun f x => ?_)
  · show aN (uN (aT0 (aCc (aRL S c b) c w (aK S b)) (aSc S c b)) (14 + aK S b) (aN S (14 + aK S b) + 1)) j = aN (uN (aT0 S (aSc S c b)) (14 + aK S b) (aN (aT0 S (aSc S c b)) (14 + aK S b) + 1)) j
    have e1 (T : AS) (hT : ∀ i, aN T i = aN S i) (i : Nat) : aN (aT0 T (aSc S c b)) i = aN (aT0 S (aSc S c b)) i := by
      unfold aT0
      split
      · rw [aN_uN, aN_uN, hT, hT]
      · rw [aN_uN, aN_uN, aN_uN, aN_uN, hT, hT, hT]
    have e2 : aN (aT0 S (aSc S c b)) (14 + aK S b) = aN S (14 + aK S b) := by
      unfold aT0
      split
      · rw [aN_ne (by omega)]
      · rw [aN_ne (by omega), aN_ne (by omega)]
    rw [aN_uN, aN_uN, e2, e1 (aCc (aRL S c b) c w (aK S b)) (fun _ => rfl)]
  · rw [aL_s2]
    show _ = aL (aT0 S (aSc S c b)) l
    unfold aT0
    split <;> rfl
  · have e0 (d f : Nat) : aC (aRL (aT0 S (aSc S c b)) c b) d f = if d = c ∧ f = 2 then nI b else if d = c ∧ f = 1 then aRun S c b else aC S d f := by
      show aC (uC (uC (aT0 S (aSc S c b)) c 1 (aRun (aT0 S (aSc S c b)) c b)) c 2 (nI b)) d f = _
      rw [aRun_T0, aC_uC, aC_uC]
      have : aC (aT0 S (aSc S c b)) d f = aC S d f := by unfold aT0; split <;> rfl
      rw [this]
    rw [aC_s2, aC_uC]
    show _ = if d = c ∧ f = aRf w then _ else aC (uC (uN (aRL (aT0 S (aSc S c b)) c b) _ _) c (5 + aK S b) (aC (aRL (aT0 S (aSc S c b)) c b) c (5 + aK S b) + 1)) d f
    rw [aC_uC]
    show _ = if d = c ∧ f = aRf w then _ else if d = c ∧ f = 5 + aK S b then _ else aC (aRL (aT0 S (aSc S c b)) c b) d f
    rw [e0, e0, if_neg (show ¬ (c = c ∧ 5 + aK S b = 2) by omega), if_neg (show ¬ (c = c ∧ 5 + aK S b = 1) by omega)]
    by_cases q5 : d = c ∧ f = 5 + aK S b
    · rw [if_pos q5, if_neg (show ¬ (d = c ∧ f = aRf w) by omega), if_pos q5]
    · rw [if_neg q5, if_neg q5]
  · rw [aB_s2]
    show _ = aB (aT0 S (aSc S c b)) f x
    unfold aT0
    split <;> rfl
theorem Inv_uC {S : AS} {c f : Nat} {v : Int32} (hf : 3 ≤ f) (h : Inv (uC S c f v)) : Inv S := by
  obtain ⟨⟨hL, hW, hU, ⟨k, k1, k2, k3⟩, hH, hS⟩, hB⟩ := h
  refine ⟨⟨hL, hW, hU, ⟨k, k1, k2, fun d hd => ?_⟩, hH, hS⟩, fun x hx => (hB x hx).congr (fun _ _ => Iff.rfl) (fun _ _ => rfl) rfl⟩
  have := k3 d hd
  rw [aC_uC, if_neg (by omega), aC_uC, if_neg (by omega), aC_uC, if_neg (by omega)] at this
  exact this
theorem Inv_M4 {S : AS} {c b : Nat} (h : Inv S) (hb : b < 200) : Inv (aM4 S c b) := by
  have := Inv_s2 (c := c) (w := 0) h hb
  rw [S2_eq] at this
  exact Inv_uC (f := 3) (by decide) this
theorem aB_M4 (S : AS) (c b f x : Nat) : aB (aM4 S c b) f x = aB S f x := by
  show aB (aT0 S (aSc S c b)) f x = _
  unfold aT0
  split <;> rfl
theorem aL_M4 (S : AS) (c b l : Nat) : aL (aM4 S c b) l = aL S l := by
  show aL (aT0 S (aSc S c b)) l = _
  unfold aT0
  split <;> rfl
theorem aK_M4 (S : AS) (c b : Nat) : aK (aM4 S c b) b = aK S b := by unfold aK; rw [aB_M4]
theorem acc_eq (S : AS) (c b : Nat) (w : Int32) : aAcc S c b w = uC (uB (aMd (aM4 S c b) b (aSc S c b)) 2 b (nI c)) c (aRf w) (aC S c (aRf w) + 1) := by
  have hr : aRf w ≠ 0 := by unfold aRf; split <;> decide
  unfold aAcc
  rw [S2_eq, aMd_uC hr]
  rfl
theorem dm_eq (S : AS) (c b : Nat) (w s x : Int32) : aDm (aS2 S c b w) b s x = aDm (aM4 S c b) b s x := by
  have hr : aRf w ≠ 0 := by unfold aRf; split <;> decide
  rw [S2_eq, aDm_uC hr]
theorem le_eq (S : AS) (c b : Nat) (w s x : Int32) : aLe (aS2 S c b w) b s x = aLe (aM4 S c b) b s x := by rw [S2_eq, aLe_uC]
section MM
variable {d e : Int32} {a : Nat → Int32} {S : AS} {U : Nat → Nat → Prop}
end MM

/-! acts: how many hits, what an act begins and ends with -/
theorem aN_acc {S : AS} {c b j : Nat} {w : Int32} (hj : j = 14 ∨ j = 15) : aN (aAcc S c b w) j = if j = 14 + aK S b then aN S j + 1 else aN S j := by
  show aN (aMd (aS2 S c b w) b (aSc S c b)) j = _
  rw [aN_md (by omega) (by omega) (by omega) (by omega) (by omega) (by omega) (by omega)]
  show aN (uN (aT0 (aCc (aRL S c b) c w (aK S b)) (aSc S c b)) (14 + aK S b) (aN (aCc (aRL S c b) c w (aK S b)) (14 + aK S b) + 1)) j = _
  rw [aN_uN]
  have e : ∀ i, i ≠ 5 → i ≠ 22 → aN (aT0 (aCc (aRL S c b) c w (aK S b)) (aSc S c b)) i = aN S i := fun i h5 h22 => by
    unfold aT0
    split
    · rw [aN_ne h5]; rfl
    · rw [aN_ne h22, aN_ne h5]; rfl
  by_cases h : j = 14 + aK S b
  · rw [if_pos h, if_pos h, h]; rfl
  · rw [if_neg h, if_neg h]
    exact e j (by omega) (by omega)
theorem cnt_acc {S : AS} {K c b : Nat} {w : Int32} (h : cntOk S K) : cntOk (aAcc S c b w) (K + 1) := by
  obtain ⟨u, v, h1, h2, h3⟩ := h
  unfold cntOk
  rw [aN_acc (Or.inl rfl), aN_acc (Or.inr rfl), h1, h2]
  have hk := aK_lt S b
  by_cases c0 : aK S b = 0
  · rw [c0]; exact ⟨u + 1, v, by rw [if_pos rfl, nI_1], by rw [if_neg (by decide)], by omega⟩
  · by_cases c1 : aK S b = 1
    · rw [c1]; exact ⟨u, v + 1, by rw [if_neg (by decide)], by rw [if_pos rfl, nI_1], by omega⟩
    · rw [if_neg (by omega), if_neg (by omega)]
      exact ⟨u, v, rfl, rfl, by omega⟩
theorem cnt_eq {S T : AS} {K : Nat} (h : cntOk S K) (e : ∀ j, j = 14 ∨ j = 15 → aN T j = aN S j) : cntOk T K := by
  obtain ⟨u, v, h1, h2, h3⟩ := h
  exact ⟨u, v, (e 14 (Or.inl rfl)).trans h1, (e 15 (Or.inr rfl)).trans h2, h3⟩
theorem aN_fin {S : AS} {b j : Nat} {v : Int32} (h13 : j ≠ 13) (h21 : j ≠ 21) : aN (aFin S b v) j = aN S j := by
  have e : aN (aVal S b v) j = aN S j := by unfold aVal; split <;> rfl
  unfold aFin
  split
  · exact e
  · exact ((sB_WB (most := aOv (aVal S b v)) 200 0 (aVal S b v)).1 j h13 h21).trans e

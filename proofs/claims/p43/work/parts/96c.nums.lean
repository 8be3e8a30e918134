/-! THE NUMBERS AND PLACES BEHIND AN ACCESS -/
section NN
variable {S : AS} {c b : Nat} {v s : Int32}
theorem aN_T0 {j : Nat} : aN (aT0 S s) j = if j = 5 then aN S 5 + 1 else if j = 22 ∧ s ≠ 0 then aN S 22 + 1 else aN S j := by
  unfold aT0
  by_cases hs : s = 0
  · rw [if_pos hs, aN_uN]
    by_cases h : j = 5
    · rw [if_pos h, if_pos h]
    · rw [if_neg h, if_neg h, if_neg (fun q => q.2 hs)]
  · rw [if_neg hs, aN_uN]
    by_cases h : j = 22
    · rw [if_pos h, if_neg (by omega), if_pos ⟨h, hs⟩]
    · rw [if_neg h, aN_uN, if_neg (fun q : j = 22 ∧ s ≠ 0 => h q.1)]
theorem aN_M4 {j : Nat} : aN (aM4 S c b) j = if j = 14 + aK S b then aN S j + 1 else if j = 5 then aN S 5 + 1 else if j = 22 ∧ aSc S c b ≠ 0 then aN S 22 + 1 else aN S j := by
  have hk := aK_lt S b
  show aN (uN (aRL (aT0 S (aSc S c b)) c b) (14 + aK S b) (aN (aRL (aT0 S (aSc S c b)) c b) (14 + aK S b) + 1)) j = _
  rw [aN_uN]
  have e : ∀ i, aN (aRL (aT0 S (aSc S c b)) c b) i = aN (aT0 S (aSc S c b)) i := fun i => rfl
  rw [e, e, aN_T0, aN_T0]
  by_cases h : j = 14 + aK S b
  · rw [if_pos h, if_pos h, if_neg (by omega), if_neg (by omega), h]
  · rw [if_neg h, if_neg h]
theorem aC_M4 {d f : Nat} : aC (aM4 S c b) d f = if d = c ∧ f = 5 + aK S b then aC S c (5 + aK S b) + 1 else if d = c ∧ f = 2 then nI b else if d = c ∧ f = 1 then aRun S c b else aC S d f := by
  have hk := aK_lt S b
  have e : ∀ d f, aC (aT0 S (aSc S c b)) d f = aC S d f := fun d f => by
    unfold aT0
    split <;> rfl
  show aC (uC (aRL (aT0 S (aSc S c b)) c b) c (5 + aK S b) (aC (aRL (aT0 S (aSc S c b)) c b) c (5 + aK S b) + 1)) d f = _
  have e2 : ∀ d f, aC (aRL (aT0 S (aSc S c b)) c b) d f = if d = c ∧ f = 2 then nI b else if d = c ∧ f = 1 then aRun S c b else aC S d f := fun d f => by
    show aC (uC (uC (aT0 S (aSc S c b)) c 1 (aRun (aT0 S (aSc S c b)) c b)) c 2 (nI b)) d f = _
    rw [aC_uC, aC_uC, aRun_T0, e]
  rw [aC_uC, e2, e2, if_neg (show ¬ (c = c ∧ 5 + aK S b = 2) by omega), if_neg (show ¬ (c = c ∧ 5 + aK S b = 1) by omega)]
theorem acc_N (j : Nat) : aN (aAcc S c b v) j = aN (aMd (aM4 S c b) b (aSc S c b)) j := by rw [acc_eq]; rfl
theorem acc_L (l : Nat) : aL (aAcc S c b v) l = aL (aMd (aM4 S c b) b (aSc S c b)) l := by rw [acc_eq]; rfl
theorem acc_B (f x : Nat) : aB (aAcc S c b v) f x = if f = 2 ∧ x = b then nI c else aB (aMd (aM4 S c b) b (aSc S c b)) f x := by
  rw [acc_eq]
  exact aB_uB _ _ _ _ _ _
theorem acc_C (d f : Nat) : aC (aAcc S c b v) d f = if d = c ∧ f = aRf v then aC S c (aRf v) + 1 else aC (aM4 S c b) d f := by
  rw [acc_eq, aC_uC]
  by_cases h : d = c ∧ f = aRf v
  · rw [if_pos h, if_pos h]
  · rw [if_neg h, if_neg h]
    show aC (aMd (aM4 S c b) b (aSc S c b)) d f = _
    exact aC_md
-- room in LOWER
theorem aN_cl20 {y : Nat} : aN (aCl S y) 20 = aN S 20 := by unfold aCl; split <;> rfl
theorem MR_20 (h : aLow S) : aN (aMR S) 20 = aN S 20 + 1 := by
  rw [aMR_t h]
  show aN (aCl S (aX S)) 20 + 1 = _
  rw [aN_cl20]
theorem MR_21 : ∃ e, e ≤ 1 ∧ aN (aMR S) 21 = aN S 21 + nI e := by
  by_cases h : aLow S
  · rw [aMR_t h]
    show ∃ e, e ≤ 1 ∧ aN (aCl S (aX S)) 21 = _
    unfold aCl
    split
    · exact ⟨0, by decide, (Int32.add_zero _).symm⟩
    · exact ⟨1, by decide, rfl⟩
  · rw [aMR_f h]
    exact ⟨0, by decide, (Int32.add_zero _).symm⟩
theorem MR_0 (h : aLow S) : aB (aMR S) 0 (aX S) = -1 := by
  rw [aMR_t h]
  exact aB_eq
theorem dem_N {x l k : Nat} (hl : l < 2) : aN (aDem S x l) k = if k = 19 then aN S 19 + 1 else aN S k := by
  rw [aDem_eq S x l hl]
  show aN (uN (aMv (aLG S (3 + l)) x l) 19 (aN (aMv (aLG S (3 + l)) x l) 19 + 1)) k = _
  have e : ∀ k, aN (aMv (aLG S (3 + l)) x l) k = aN S k := fun k => aN_LG S l k
  rw [aN_uN, e, e]
theorem dem_4 {x l : Nat} (hl : l < 2) : aB (aDem S x l) 4 x = nI (3 + l) := by
  rw [aDem_eq S x l hl]
  show aB (aMv (aLG S (3 + l)) x l) 4 x = _
  rw [aB_mv, if_neg (fun q => absurd q.1 (by decide)), if_pos ⟨rfl, rfl⟩]
/-- what an access leaves: what was demoted, what left, the numbers, where the block stands -/
def MdF (R M : AS) (b : Nat) (s dm le : Int32) : Prop :=
  (dm = -1 ∧ aN M 19 = aN R 19 ∨ ∃ x, x < 200 ∧ dm = nI x ∧ aN M 19 = aN R 19 + 1 ∧ aB M 0 x = 2 ∧ (∃ l, l < 2 ∧ aB M 4 x = nI (3 + l)) ∧ x ≠ b ∧ aFull R ∧ aK R b ≠ 0 ∧ s = 0) ∧
  (le = -1 ∧ aN M 20 = aN R 20 ∨ ∃ y, y < 200 ∧ le = nI y ∧ aN M 20 = aN R 20 + 1 ∧ aB M 0 y = -1 ∧ y ≠ b) ∧
  (∃ e, e ≤ 1 ∧ aN M 21 = aN R 21 + nI e) ∧
  (∃ p q, p + q ≤ (if aK R b = 0 then 0 else 1) ∧ aN M 17 = aN R 17 + nI p ∧ aN M 18 = aN R 18 + nI q) ∧
  ∃ l, l < 3 ∧ aB M 0 b = nI l ∧ (aK R b ≠ 0 → ∃ L, aL M l = b :: L) ∧ (s = 0 → l < 2) ∧ (aK R b ≠ 0 → s ≠ 0 → l = 2)
theorem aIn_B {X : AS} {l f x : Nat} (h : x ≠ b) : aB (aIn X b l) f x = aB X f x := by
  show aB (uB X 0 b (nI l)) f x = _
  exact aB_ne h
theorem aIn_0 {X : AS} {l : Nat} : aB (aIn X b l) 0 b = nI l := by
  show aB (uB X 0 b (nI l)) 0 b = _
  exact aB_eq
theorem aIn_l {X : AS} {l : Nat} : aL (aIn X b l) l = b :: aL X l := by
  show aL (uL (uB X 0 b (nI l)) l (b :: aL X l)) l = _
  exact aL_eq
theorem s3_17 (hw : aB S 0 b = -1 ∨ aB S 0 b = 2) : ∃ p q, p + q ≤ 1 ∧ aN (aS3 S b) 17 = aN S 17 + nI p ∧ aN (aS3 S b) 18 = aN S 18 + nI q := by
  have e1 : ∀ k, aN (aS3 S b) k = aN (aLn (aTop S b) (aB S 4 b)) k := fun k => aN_LG1
  have e2 : ∀ k, aN (aTop S b) k = aN S k := fun k => by
    unfold aTop
    split <;> rfl
  rw [e1, e1]
  unfold aLn
  by_cases h3 : aB S 4 b = 3
  · refine ⟨1, 0, by decide, ?_, ?_⟩
    · rw [if_pos h3, aN_ne (by decide), aN_uN, if_pos rfl, e2]
      rfl
    · rw [if_pos h3, aN_ne (by decide), aN_ne (by decide), e2]
      exact (Int32.add_zero _).symm
  · rw [if_neg h3]
    by_cases h4 : aB S 4 b = 4
    · refine ⟨0, 1, by decide, ?_, ?_⟩
      · rw [if_pos h4, aN_ne (by decide), aN_ne (by decide), e2]
        exact (Int32.add_zero _).symm
      · rw [if_pos h4, aN_ne (by decide), aN_uN, if_pos rfl, e2]
        rfl
    · rw [if_neg h4]
      exact ⟨0, 0, by decide, by rw [e2]; exact (Int32.add_zero _).symm, by rw [e2]; exact (Int32.add_zero _).symm⟩
theorem s3_L {l : Nat} (hl : l < 2) (hg : aB S 4 b = -1 ∨ ∃ g, g < 2 ∧ aB S 4 b = nI (3 + g)) : aL (aS3 S b) l = aL S l := by
  have eg : aB (aLn (aTop S b) (aB S 4 b)) 4 b = aB S 4 b := (ln_g _ _ _).trans (aTop_g S b b)
  have e1 : aL (aS3 S b) l = aL (aLn (aTop S b) (aB S 4 b)) l := by
    show aL (aLG1 (aLn (aTop S b) (aB S 4 b)) b) l = _
    rcases hg with h | ⟨g, hg2, h⟩
    · unfold aLG1
      rw [if_pos (eg.trans h)]
    · rw [LG1_eq hg2 (eg.trans h), aL_go, if_neg (by omega)]
  have e2 : aL (aLn (aTop S b) (aB S 4 b)) l = aL (aTop S b) l := by
    unfold aLn
    split
    · rfl
    · split <;> rfl
  rw [e1, e2, aTop_L34 S b (by omega)]
theorem s3_full (hg : aB S 4 b = -1 ∨ ∃ g, g < 2 ∧ aB S 4 b = nI (3 + g)) (h : aFull (aS3 S b)) : aFull S := by
  unfold aFull at h ⊢
  rw [s3_L (by decide) hg, s3_L (by decide) hg, aN_s3 (by decide) (by decide) (by decide)] at h
  exact h
theorem i0 (x : Int32) : x = x + nI 0 := (Int32.add_zero x).symm
theorem lf_t {X : AS} (h : aLow X) : aLf X (-1) = nI (aX X) := aLf_t h
theorem Mx_ne {X : AS} (hM : Mx X b) {l x : Nat} (hl : l < 3) (hx : x ∈ aL X l) : x ≠ b := fun e => hM.2.1 l hl (e ▸ hx)
/-- a new unit comes into the upper layer -/
theorem come_facts (hI : Inv S) (hb : b < 200) (hw : aB S 0 b = -1 ∨ aB S 0 b = 2) : MdF S (aCome S b) b 0 (aDd (aS3 S b) b (aB S 4 b) (-1)) (aDl (aS3 S b) (-1)) := by
  have hg := (hI.2 b hb).2.2.2.1
  obtain ⟨hM, -⟩ := Mx_s3 hI hb hw
  have hk : aK S b ≠ 0 := by
    unfold aK
    rcases hw with h | h
    · rw [if_pos h]; decide
    · rw [if_neg (by rw [h]; decide), if_pos h]; decide
  have hlt : aLt (aB S 4 b) < 2 := by unfold aLt; split <;> decide
  have hN : ∀ k, aN (aCome S b) k = aN (aMk (aS3 S b) (aWf (aB S 4 b))) k := fun k => rfl
  have hB : ∀ f x, x ≠ b → aB (aCome S b) f x = aB (aMk (aS3 S b) (aWf (aB S 4 b))) f x := fun f x h => aIn_B h
  have n3 : ∀ k, k ≠ 4 → k ≠ 17 → k ≠ 18 → aN (aS3 S b) k = aN S k := fun k a1 a2 a3 => aN_s3 a1 a2 a3
  obtain ⟨p, q, h1, h17, h18⟩ := s3_17 hw
  refine ⟨?_, ?_, ?_, ⟨p, q, by rw [if_neg hk]; exact h1, ?_, ?_⟩, aLt (aB S 4 b), by omega, aIn_0, fun _ => ⟨_, aIn_l⟩, fun _ => hlt, fun _ q => absurd rfl q⟩
  · by_cases hf : aFull (aS3 S b)
    · refine Or.inr ⟨aV (aS3 S b) (aWf (aB S 4 b)), ?_⟩
      have hv := aV_mem (wf := aWf (aB S 4 b)) hM.1.2.2.1 hf
      have hvl := aVl_lt (S := aS3 S b) (aWf (aB S 4 b))
      have hne : aV (aS3 S b) (aWf (aB S 4 b)) ≠ b := Mx_ne hM (by omega) hv
      refine ⟨(hM.1.1 _ (by omega)).2 _ hv, if_pos hf, ?_, ?_, ⟨_, hvl, ?_⟩, hne, s3_full hg hf, hk, rfl⟩
      · rw [hN, aMk_t hf, dem_N hvl, if_pos rfl, aN_MR (by decide) (by decide) (by decide), n3 19 (by decide) (by decide) (by decide)]
      · rw [hB _ _ hne, aMk_t hf, aB_dem hvl (by decide), if_pos ⟨rfl, rfl⟩]
      · rw [hB _ _ hne, aMk_t hf, dem_4 hvl]
    · exact Or.inl ⟨if_neg hf, by rw [hN, aMk_f hf, n3 19 (by decide) (by decide) (by decide)]⟩
  · by_cases hf : aFull (aS3 S b)
    · have hvl := aVl_lt (S := aS3 S b) (aWf (aB S 4 b))
      have e20 : aN (aCome S b) 20 = aN (aMR (aS3 S b)) 20 := by rw [hN, aMk_t hf, dem_N hvl, if_neg (by decide)]
      have eD : aDl (aS3 S b) (-1) = aLf (aS3 S b) (-1) := if_pos hf
      rw [eD, e20]
      by_cases hl : aLow (aS3 S b)
      · obtain ⟨x1, x2, x3⟩ := Mx_X hM hl
        refine Or.inr ⟨aX (aS3 S b), x1, aLf_t hl, ?_, ?_, x2⟩
        · rw [MR_20 hl, n3 20 (by decide) (by decide) (by decide)]
        · have hv := aV_mem (wf := aWf (aB S 4 b)) hM.1.2.2.1 hf
          have hv2 := (hM.1.1 _ (show aVl (aS3 S b) (aWf (aB S 4 b)) < 5 by omega)).2 _ hv
          have hvb : aV (aS3 S b) (aWf (aB S 4 b)) ≠ b := Mx_ne hM (by omega) hv
          have hv0 := ((hM.2.2.2.2.2 _ hv2 hvb).1 _ (show aVl (aS3 S b) (aWf (aB S 4 b)) < 3 by omega)).mp hv
          have hne : aX (aS3 S b) ≠ aV (aS3 S b) (aWf (aB S 4 b)) := fun e => by
            rw [← e, x3] at hv0
            have := (nI_eq (a := 2) (by decide) (by omega)).mp hv0
            omega
          rw [hB _ _ x2, aMk_t hf, aB_dem hvl (by decide), if_neg (fun q => hne q.2), MR_0 hl]
      · refine Or.inl ⟨aLf_f hl, ?_⟩
        rw [aMR_f hl, n3 20 (by decide) (by decide) (by decide)]
    · exact Or.inl ⟨if_neg hf, by rw [hN, aMk_f hf, n3 20 (by decide) (by decide) (by decide)]⟩
  · by_cases hf : aFull (aS3 S b)
    · obtain ⟨e, he, h21⟩ := MR_21 (S := aS3 S b)
      exact ⟨e, he, by rw [hN, aMk_t hf, dem_N (aVl_lt _), if_neg (by decide), h21, n3 21 (by decide) (by decide) (by decide)]⟩
    · exact ⟨0, by decide, by rw [hN, aMk_f hf, n3 21 (by decide) (by decide) (by decide)]; exact i0 _⟩
  · rw [hN, aN_Mk (by decide) (by decide) (by decide) (by decide), h17]
  · rw [hN, aN_Mk (by decide) (by decide) (by decide) (by decide), h18]
/-- a scan -/
theorem scan_facts (hI : Inv S) (hb : b < 200) (hs : s ≠ 0) (hw : aB S 0 b = -1 ∨ aB S 0 b = 2) : MdF S (aScan S b) b s (-1) (if aB S 0 b = 2 then -1 else aLf S (-1)) := by
  have hk : aK S b ≠ 0 := by
    unfold aK
    rcases hw with h | h
    · rw [if_pos h]; decide
    · rw [if_neg (by rw [h]; decide), if_pos h]; decide
  by_cases e : aB S 0 b = 2
  · have eS : aScan S b = aIn (uB (uL S 2 (pu_rm (aL S 2) b)) 0 b (-1)) b 2 := by
      unfold aScan
      rw [if_pos e, Mt_In]
    rw [eS, if_pos e]
    exact ⟨Or.inl ⟨rfl, rfl⟩, Or.inl ⟨rfl, rfl⟩, ⟨0, by decide, i0 _⟩, ⟨0, 0, by rw [if_neg hk]; decide, i0 _, i0 _⟩, 2, by decide, aIn_0, fun _ => ⟨_, aIn_l⟩, fun q => absurd q hs, fun _ _ => rfl⟩
  · have e0 := hw.resolve_right e
    have hM := Mx_non hI hb e0
    have eS : aScan S b = aIn (aClean (aMR S) b) b 2 := by
      unfold aScan
      rw [if_neg e]
    have hN : ∀ k, aN (aIn (aClean (aMR S) b) b 2) k = aN (aMR S) k := fun k => rfl
    rw [eS, if_neg e]
    refine ⟨Or.inl ⟨rfl, by rw [hN, aN_MR (by decide) (by decide) (by decide)]⟩, ?_, ?_, ⟨0, 0, by rw [if_neg hk]; decide, by rw [hN, aN_MR (by decide) (by decide) (by decide)]; exact i0 _, by rw [hN, aN_MR (by decide) (by decide) (by decide)]; exact i0 _⟩, 2, by decide, aIn_0, fun _ => ⟨_, aIn_l⟩, fun q => absurd q hs, fun _ _ => rfl⟩
    · by_cases hl : aLow S
      · obtain ⟨x1, x2, x3⟩ := Mx_X hM hl
        refine Or.inr ⟨aX S, x1, aLf_t hl, by rw [hN, MR_20 hl], ?_, x2⟩
        rw [aIn_B x2]
        show aB (uB (uB (aMR S) 1 b _) 3 b (-1)) 0 (aX S) = _
        rw [aB_ne x2, aB_ne x2, MR_0 hl]
      · exact Or.inl ⟨aLf_f hl, by rw [hN, aMR_f hl]⟩
    · obtain ⟨n, hn, h21⟩ := MR_21 (S := S)
      exact ⟨n, hn, by rw [hN, h21]⟩
theorem md_facts (hI : Inv S) (hb : b < 200) : MdF S (aMd S b s) b s (aDm S b s (-1)) (aLe S b s (-1)) := by
  rcases wh_cases hI hb with ⟨k, e⟩ | ⟨k, e⟩ | ⟨l, hl, k, e⟩
  · have k0 : aK S b ≠ 0 := by rw [k]; decide
    unfold aDm aLe
    rw [if_neg k0, if_neg k0]
    by_cases hs : s = 0
    · rw [if_pos hs, if_pos hs, hs, md_c k0]; exact come_facts hI hb (Or.inl e)
    · rw [if_neg hs, if_neg hs, md_s k0 hs]; exact scan_facts hI hb hs (Or.inl e)
  · have k0 : aK S b ≠ 0 := by rw [k]; decide
    unfold aDm aLe
    rw [if_neg k0, if_neg k0]
    by_cases hs : s = 0
    · rw [if_pos hs, if_pos hs, hs, md_c k0]; exact come_facts hI hb (Or.inr e)
    · rw [if_neg hs, if_neg hs, md_s k0 hs]; exact scan_facts hI hb hs (Or.inr e)
  · unfold aDm aLe
    rw [if_pos k, if_pos k]
    by_cases hs : s = 0
    · rw [hs, md_0 k (by omega) e, Mt_In]
      exact ⟨Or.inl ⟨rfl, rfl⟩, Or.inl ⟨rfl, rfl⟩, ⟨0, by decide, i0 _⟩, ⟨0, 0, by rw [if_pos k]; decide, i0 _, i0 _⟩, 1, by decide, aIn_0, fun q => absurd k q, fun _ => by decide, fun q => absurd k q⟩
    · rw [md_1 k hs]
      exact ⟨Or.inl ⟨rfl, rfl⟩, Or.inl ⟨rfl, rfl⟩, ⟨0, by decide, i0 _⟩, ⟨0, 0, by rw [if_pos k]; decide, i0 _, i0 _⟩, l, by omega, e, fun q => absurd k q, fun _ => hl, fun q => absurd k q⟩
end NN

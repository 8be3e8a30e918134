/-! THE SUMS, AND WHAT AN ACCESS LEAVES, put together -/
def aSm (S : AS) (f : Nat) : Nat → Int32
  | 0 => 0
  | n + 1 => aSm S f n + aC S n f
def SumOk (S : AS) (k t : Nat) : Prop :=
  aSm S 3 k + aSm S 4 k = aN S 5 ∧ aSm S 5 k = aN S 14 ∧ aSm S 6 k = aN S 15 ∧ aSm S 7 k = aN S 16 ∧ aN S 14 + aN S 15 + aN S 16 = aN S 5 ∧
  (∃ l m p q, aN S 15 = nI l ∧ aN S 16 = nI m ∧ aN S 17 = nI p ∧ aN S 18 = nI q ∧ p + q ≤ l + m ∧ l + m ≤ t) ∧ ∃ s, aN S 22 = nI s ∧ s ≤ t
def SI (S : AS) (w : Nat → Int32) (k t : Nat) : Prop := Inv S ∧ aN S 6 = nI k ∧ 1 ≤ k ∧ k ≤ 4 ∧ JN S w t ∧ aN S 5 = nI t ∧ SumOk S k t
theorem aSm_congr {S T : AS} {f g : Nat} : ∀ k, (∀ d, d < k → aC T d f = aC S d g) → aSm T f k = aSm S g k := by
  intro k
  induction k with
  | zero => intro _; rfl
  | succ k ih =>
    intro h
    rw [aSm, aSm, ih (fun d hd => h d (by omega)), h k (by omega)]
theorem aSm_inc {S T : AS} {f c : Nat} : ∀ k, c < k → (∀ d, d < k → d ≠ c → aC T d f = aC S d f) → aC T c f = aC S c f + 1 → aSm T f k = aSm S f k + 1 := by
  intro k
  induction k with
  | zero => intro h; omega
  | succ k ih =>
    intro hc h h1
    rw [aSm, aSm]
    by_cases e : c = k
    · subst e
      rw [aSm_congr (S := S) (g := f) c (fun d hd => h d (by omega) (by omega)), h1, Int32.add_assoc]
    · rw [ih (by omega) (fun d hd hne => h d (by omega) hne) h1, h k (by omega) (fun q => e q.symm), Int32.add_assoc, Int32.add_assoc, Int32.add_comm 1]
section SS
variable {S : AS} {w : Nat → Int32} {k t c b : Nat} {v : Int32}
theorem sc_01 (S : AS) (c b : Nat) : aSc S c b = 0 ∨ aSc S c b = 1 := by
  unfold aSc
  split
  · exact Or.inl rfl
  · exact Or.inr rfl
theorem M4_22 : aN (aM4 S c b) 22 = aN S 22 + aSc S c b := by
  have hk := aK_lt S b
  rw [aN_M4, if_neg (by omega), if_neg (by decide)]
  rcases sc_01 S c b with h | h
  · rw [if_neg (fun q => q.2 h), h, Int32.add_zero]
  · rw [if_pos ⟨rfl, by rw [h]; decide⟩, h]
theorem acc_C3 {d f : Nat} (hf : 3 ≤ f) : aC (aAcc S c b v) d f = if d = c ∧ (f = aRf v ∨ f = 5 + aK S b) then aC S c f + 1 else aC S d f := by
  have hr : aRf v = 3 ∨ aRf v = 4 := by
    unfold aRf
    split
    · exact Or.inl rfl
    · exact Or.inr rfl
  rw [acc_C]
  by_cases h : d = c ∧ f = aRf v
  · rw [if_pos h, if_pos ⟨h.1, Or.inl h.2⟩, h.2]
  · rw [if_neg h, aC_M4]
    by_cases h2 : d = c ∧ f = 5 + aK S b
    · rw [if_pos h2, if_pos ⟨h2.1, Or.inr h2.2⟩, h2.2]
    · rw [if_neg h2, if_neg (by omega), if_neg (by omega), if_neg (fun q => q.2.elim (fun e => h ⟨q.1, e⟩) (fun e => h2 ⟨q.1, e⟩))]
theorem acc_sm {f : Nat} (hf : 3 ≤ f) (hc : c < k) : aSm (aAcc S c b v) f k = if f = aRf v ∨ f = 5 + aK S b then aSm S f k + 1 else aSm S f k := by
  by_cases h : f = aRf v ∨ f = 5 + aK S b
  · rw [if_pos h]
    exact aSm_inc k hc (fun d hd hne => by rw [acc_C3 hf, if_neg (fun q => hne q.1)]) (by rw [acc_C3 hf, if_pos ⟨rfl, h⟩])
  · rw [if_neg h]
    exact aSm_congr k (fun d hd => by rw [acc_C3 hf, if_neg (fun q => h q.2)])
theorem acc_5 : aN (aAcc S c b v) 5 = aN S 5 + 1 := by
  have hk := aK_lt S b
  rw [acc_N, aN_md (by decide) (by decide) (by decide) (by decide) (by decide) (by decide) (by decide), aN_M4, if_neg (by omega), if_pos rfl]
theorem acc_22 : aN (aAcc S c b v) 22 = aN S 22 + aSc S c b := by
  rw [acc_N, aN_md (by decide) (by decide) (by decide) (by decide) (by decide) (by decide) (by decide), M4_22]
theorem acc_14 {j : Nat} (hj : j < 3) : aN (aAcc S c b v) (14 + j) = if j = aK S b then aN S (14 + j) + 1 else aN S (14 + j) := by
  rw [acc_N, aN_md (by omega) (by omega) (by omega) (by omega) (by omega) (by omega) (by omega), aN_M4]
  by_cases h : j = aK S b
  · rw [if_pos (by omega), if_pos h]
  · rw [if_neg (by omega), if_neg (by omega), if_neg (by omega), if_neg h]
theorem M4_o {j : Nat} (h1 : j < 14 ∨ 17 ≤ j) (h5 : j ≠ 5) (h22 : j ≠ 22) : aN (aM4 S c b) j = aN S j := by
  have hk := aK_lt S b
  rw [aN_M4, if_neg (by omega), if_neg h5, if_neg (fun q => h22 q.1)]
theorem SI_acc (h : SI S w k t) (hc : c < k) (hb : b < 200) : SI (aAcc S c b v) w k (t + 1) := by
  obtain ⟨hI, h6, k1, k4, hJ, h5, s1, s2, s3, s4, s5, ⟨l, m, p, q, e1, e2, e3, e4, e5, e6⟩, s, e7, e8⟩ := h
  have hk3 := aK_lt S b
  have hr : aRf v = 3 ∨ aRf v = 4 := by
    unfold aRf
    split
    · exact Or.inl rfl
    · exact Or.inr rfl
  have hn4 : nI c < aN S 6 := by rw [h6]; exact nI_lt hc (by omega)
  obtain ⟨-, -, -, ⟨p', q', f1, f2, f3⟩, -⟩ := md_facts (s := aSc S c b) (Inv_M4 (c := c) hI hb) hb
  rw [aK_M4] at f1
  have t15 := acc_14 (S := S) (c := c) (b := b) (v := v) (j := 1) (by decide)
  have t16 := acc_14 (S := S) (c := c) (b := b) (v := v) (j := 2) (by decide)
  have t14 := acc_14 (S := S) (c := c) (b := b) (v := v) (j := 0) (by decide)
  have g (j : Nat) := acc_sm (S := S) (c := c) (b := b) (v := v) (f := j) (k := k)
  refine ⟨Inv_acc hI hb (by omega) hn4, aN6_acc.trans h6, k1, k4, (JN_acc hJ hI hb).mono (by omega), by rw [acc_5, h5, nI_1], ?_, ?_, ?_, ?_, ?_, ⟨if aK S b = 1 then l + 1 else l, if aK S b = 2 then m + 1 else m, p + p', q + q', ?_, ?_, ?_, ?_, ?_, ?_⟩, if aSc S c b = 0 then s else s + 1, ?_, ?_⟩
  · rw [g 3 (by decide) hc, g 4 (by decide) hc, acc_5, ← s1]
    rcases hr with hr | hr
    · rw [if_pos (Or.inl hr.symm), if_neg (by omega), Int32.add_assoc, Int32.add_assoc, Int32.add_comm 1]
    · rw [if_neg (by omega), if_pos (Or.inl hr.symm), Int32.add_assoc]
  · rw [g 5 (by decide) hc, t14, s2]
    by_cases h : 0 = aK S b
    · rw [if_pos (by omega), if_pos h]
    · rw [if_neg (by omega), if_neg h]
  · rw [g 6 (by decide) hc, t15, s3]
    by_cases h : 1 = aK S b
    · rw [if_pos (by omega), if_pos h]
    · rw [if_neg (by omega), if_neg h]
  · rw [g 7 (by decide) hc, t16, s4]
    by_cases h : 2 = aK S b
    · rw [if_pos (by omega), if_pos h]
    · rw [if_neg (by omega), if_neg h]
  · rw [acc_5, t14, t15, t16, ← s5]
    rcases (show aK S b = 0 ∨ aK S b = 1 ∨ aK S b = 2 by omega) with h | h | h
    · rw [if_pos (by omega), if_neg (by omega), if_neg (by omega)]; simp only [Int32.add_assoc, Int32.add_comm 1]
    · rw [if_neg (by omega), if_pos (by omega), if_neg (by omega)]; simp only [Int32.add_assoc, Int32.add_comm 1]
    · rw [if_neg (by omega), if_neg (by omega), if_pos (by omega)]; simp only [Int32.add_assoc]
  · rw [t15, e1]
    by_cases h : 1 = aK S b
    · rw [if_pos h, if_pos h.symm, nI_1]
    · rw [if_neg h, if_neg (fun q => h q.symm)]
  · rw [t16, e2]
    by_cases h : 2 = aK S b
    · rw [if_pos h, if_pos h.symm, nI_1]
    · rw [if_neg h, if_neg (fun q => h q.symm)]
  · rw [acc_N, f2, M4_o (Or.inr (by decide)) (by decide) (by decide), e3, nI_add]
  · rw [acc_N, f3, M4_o (Or.inr (by decide)) (by decide) (by decide), e4, nI_add]
  · rcases (show aK S b = 0 ∨ aK S b = 1 ∨ aK S b = 2 by omega) with h | h | h
    · rw [if_pos h] at f1; rw [if_neg (by omega), if_neg (by omega)]; omega
    · rw [if_neg (by omega)] at f1; rw [if_pos h, if_neg (by omega)]; omega
    · rw [if_neg (by omega)] at f1; rw [if_neg (by omega), if_pos h]; omega
  · rcases (show aK S b = 0 ∨ aK S b = 1 ∨ aK S b = 2 by omega) with h | h | h
    · rw [if_neg (by omega), if_neg (by omega)]; omega
    · rw [if_pos h, if_neg (by omega)]; omega
    · rw [if_neg (by omega), if_pos h]; omega
  · rw [acc_22, e7]
    rcases sc_01 S c b with h | h
    · rw [h, if_pos rfl, Int32.add_zero]
    · rw [h, if_neg (by decide), nI_1]
  · split <;> omega
theorem aC_fin {x : Int32} (d f : Nat) : aC (aFin S b x) d f = aC S d f := by
  have h0 : aC (aVal S b x) d f = aC S d f := by unfold aVal; split <;> rfl
  unfold aFin
  split
  · exact h0
  · exact ((sB_WB 200 0 _).2.2 d f).trans h0
theorem aL_fin {x : Int32} (l : Nat) : aL (aFin S b x) l = aL S l := by
  have h0 : aL (aVal S b x) l = aL S l := by unfold aVal; split <;> rfl
  unfold aFin
  split
  · exact h0
  · exact ((sB_WB 200 0 _).2.1 l).trans h0
theorem aB_WB {most : Int32} {f x : Nat} (h3 : f ≠ 3) (h5 : f ≠ 5) : ∀ r k S, aB (aWB most r k S).2 f x = aB S f x := by
  intro r
  induction r with
  | zero => intro k S; rfl
  | succ r ih =>
    intro k S
    rw [aWB]
    split
    · rfl
    · split
      · rfl
      · rw [ih, aB_wuN h3 h5]
theorem aB_fin {x : Int32} {f y : Nat} (h1 : f ≠ 1) (h3 : f ≠ 3) (h5 : f ≠ 5) : aB (aFin S b x) f y = aB S f y := by
  unfold aFin
  split
  · exact aB_val h1 h3
  · rw [aB_WB h3 h5, aB_val h1 h3]
theorem SI_fin {x : Int32} (h : SI S w k t) (hw : aB S 0 b ≠ -1) (ht : t < 2 ^ 30) : SI (aFin S b x) (upd w b x) k t := by
  obtain ⟨hI, h6, k1, k4, hJ, h5, s1, s2, s3, s4, s5, s6, s7⟩ := h
  have n (j : Nat) (a : j ≠ 13) (c : j ≠ 21) := aN_fin (S := S) (b := b) (v := x) a c
  have m (f : Nat) : aSm (aFin S b x) f k = aSm S f k := aSm_congr k (fun d hd => aC_fin d f)
  obtain ⟨hJ2, -, -⟩ := fin_facts (v := x) hJ hI hw h5 ht
  refine ⟨Inv_fin hI hw, (n 6 (by decide) (by decide)).trans h6, k1, k4, hJ2, (n 5 (by decide) (by decide)).trans h5, ?_⟩
  unfold SumOk
  rw [m, m, m, m, m, n 5 (by decide) (by decide), n 14 (by decide) (by decide), n 15 (by decide) (by decide), n 16 (by decide) (by decide), n 17 (by decide) (by decide), n 18 (by decide) (by decide), n 22 (by decide) (by decide)]
  exact ⟨s1, s2, s3, s4, s5, s6, s7⟩
/-- what the law looks at behind an access -/
def UF (S U : AS) (c b : Nat) : Prop :=
  aN U (14 + aK S b) = aN S (14 + aK S b) + 1 ∧ aN U 5 = aN S 5 + 1 ∧ aN U 22 = aN S 22 + aSc S c b ∧
  (wbV S c b 3 = -1 ∧ aN U 19 = aN S 19 ∨ ∃ x, x < 200 ∧ wbV S c b 3 = nI x ∧ aN U 19 = aN S 19 + 1 ∧ aB U 0 x = 2 ∧ (∃ l, l < 2 ∧ aB U 4 x = nI (3 + l)) ∧ aFull S ∧ aK S b ≠ 0 ∧ aSc S c b = 0) ∧
  (wbV S c b 4 = -1 ∧ aN U 20 = aN S 20 ∨ ∃ y, y < 200 ∧ wbV S c b 4 = nI y ∧ aN U 20 = aN S 20 + 1 ∧ aB U 0 y = -1) ∧
  (∃ l, l < 3 ∧ aB U 0 b = nI l ∧ wbV S c b 2 = nI l ∧ (aK S b ≠ 0 → ∃ L, aL U l = b :: L) ∧ (aSc S c b = 0 → l < 2) ∧ (aK S b ≠ 0 → aSc S c b ≠ 0 → l = 2)) ∧
  aB U 2 b = nI c ∧ aC U c 2 = nI b ∧ aN U 4 = wbV S c b 6
theorem UF_acc (h : SI S w k t) (hb : b < 200) : UF S (aAcc S c b v) c b := by
  obtain ⟨hI, -⟩ := h
  obtain ⟨f1, f2, -, -, l, l3, l0, l1, l2, l4⟩ := md_facts (s := aSc S c b) (Inv_M4 (c := c) hI hb) hb
  have hfull : aFull (aM4 S c b) → aFull S := fun q => by
    unfold aFull at q ⊢
    rw [M4_o (Or.inl (by decide)) (by decide) (by decide), aL_M4, aL_M4] at q
    exact q
  have hB0 : ∀ x, aB (aAcc S c b v) 0 x = aB (aMd (aM4 S c b) b (aSc S c b)) 0 x := fun x => by rw [acc_B, if_neg (fun q => absurd q.1 (by decide))]
  have hB4 : ∀ x, aB (aAcc S c b v) 4 x = aB (aMd (aM4 S c b) b (aSc S c b)) 4 x := fun x => by rw [acc_B, if_neg (fun q => absurd q.1 (by decide))]
  have e19 : aN (aM4 S c b) 19 = aN S 19 := M4_o (Or.inr (by decide)) (by decide) (by decide)
  have e20 : aN (aM4 S c b) 20 = aN S 20 := M4_o (Or.inr (by decide)) (by decide) (by decide)
  have w2 : wbV S c b 2 = aB (aAcc S c b 0) 0 b := rfl
  rw [aK_M4] at f1 l1 l4
  refine ⟨?_, acc_5, acc_22, ?_, ?_, ⟨l, l3, (hB0 b).trans l0, ?_, ?_, l2, l4⟩, ?_, ?_, ?_⟩
  · rw [acc_14 (aK_lt S b), if_pos rfl]
  · rcases f1 with ⟨a1, a2⟩ | ⟨x, x1, x2, x3, x4, x5, x6, x7, x8, x9⟩
    · exact Or.inl ⟨a1, by rw [acc_N, a2, e19]⟩
    · refine Or.inr ⟨x, x1, x2, by rw [acc_N, x3, e19], by rw [hB0]; exact x4, ?_, hfull x7, x8, x9⟩
      obtain ⟨i, i1, i2⟩ := x5
      exact ⟨i, i1, by rw [hB4]; exact i2⟩
  · rcases f2 with ⟨a1, a2⟩ | ⟨y, y1, y2, y3, y4, y5⟩
    · exact Or.inl ⟨a1, by rw [acc_N, a2, e20]⟩
    · exact Or.inr ⟨y, y1, y2, by rw [acc_N, y3, e20], by rw [hB0]; exact y4⟩
  · rw [w2, acc_B, if_neg (fun q => absurd q.1 (by decide))]; exact l0
  · intro hk
    obtain ⟨L, hL⟩ := l1 hk
    exact ⟨L, by rw [acc_L]; exact hL⟩
  · rw [acc_B, if_pos ⟨rfl, rfl⟩]
  · have hr : aRf v = 3 ∨ aRf v = 4 := by
      unfold aRf
      split
      · exact Or.inl rfl
      · exact Or.inr rfl
    rw [acc_C, if_neg (by omega), aC_M4, if_neg (by omega), if_pos ⟨rfl, rfl⟩]
  · show aN (aAcc S c b v) 4 = aN (aAcc S c b 0) 4
    rw [acc_N, acc_N]
theorem UF_fin {U : AS} {x : Int32} (h : UF S U c b) : UF S (aFin U b x) c b := by
  unfold UF at h ⊢
  have n (j : Nat) (a : j ≠ 13) (c : j ≠ 21) := aN_fin (S := U) (b := b) (v := x) a c
  have hk := aK_lt S b
  have e0 (y : Nat) : aB (aFin U b x) 0 y = aB U 0 y := aB_fin (by decide) (by decide) (by decide)
  have e4 (y : Nat) : aB (aFin U b x) 4 y = aB U 4 y := aB_fin (by decide) (by decide) (by decide)
  have e2 : aB (aFin U b x) 2 b = aB U 2 b := aB_fin (by decide) (by decide) (by decide)
  rw [n _ (by omega) (by omega), n 5 (by decide) (by decide), n 22 (by decide) (by decide), n 19 (by decide) (by decide), n 20 (by decide) (by decide), n 4 (by decide) (by decide), e2, aC_fin]
  simp only [e0, e4, aL_fin]
  exact h
theorem acc_21 (hI : Inv S) (hb : b < 200) : ∃ e, e ≤ 1 ∧ aN (aAcc S c b v) 21 = aN S 21 + nI e := by
  obtain ⟨-, -, ⟨e, e1, e2⟩, -⟩ := md_facts (s := aSc S c b) (Inv_M4 (c := c) hI hb) hb
  exact ⟨e, e1, by rw [acc_N, e2, M4_o (Or.inr (by decide)) (by decide) (by decide)]⟩
end SS

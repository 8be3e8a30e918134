/-! what is kept by every step; the class's access -/
def BOk (S : AS) (x : Nat) : Prop :=
  (∀ l, l < 3 → (x ∈ aL S l ↔ aB S 0 x = nI l)) ∧ (aB S 0 x = -1 ∨ ∃ l, l < 3 ∧ aB S 0 x = nI l) ∧
  (∀ l, l < 2 → (x ∈ aL S (3 + l) ↔ aB S 4 x = nI (3 + l))) ∧ (aB S 4 x = -1 ∨ ∃ l, l < 2 ∧ aB S 4 x = nI (3 + l)) ∧
  (aB S 0 x = -1 → aB S 1 x = -1 ∧ aB S 2 x = -1 ∧ aB S 3 x = -1) ∧ (aB S 0 x = nI 0 ∨ aB S 0 x = nI 1 → aB S 4 x = -1) ∧
  (aB S 0 x ≠ -1 → ∃ c, c < 4 ∧ aB S 2 x = nI c ∧ nI c < aN S 6)
def cliOk (S : AS) : Prop := ∃ k, aN S 6 = nI k ∧ k ≤ 4 ∧ ∀ c, c < k → (∃ w, aC S c 0 = nI w ∧ 1 ≤ w ∧ w ≤ 9) ∧
  (aC S c 2 = -1 ∧ aC S c 1 = 0 ∨ ∃ z r, aC S c 2 = nI z ∧ aC S c 1 = nI r ∧ z < 200 ∧ 1 ≤ r ∧ r ≤ z + 1)
def setOk (S : AS) : Prop := (∃ n, aN S 0 = nI n ∧ 2 ≤ n ∧ n ≤ 20) ∧ ∃ n, aN S 1 = nI n ∧ n ≤ 40
def Inv0 (S : AS) : Prop := LOk S ∧ lowOk S ∧ upOk S ∧ cliOk S ∧ hdOk S ∧ setOk S
def Inv (S : AS) : Prop := Inv0 S ∧ ∀ x, x < 200 → BOk S x
/-- between two lists: the block b stands in none of the three, all else is in order -/
def Mx (S : AS) (b : Nat) : Prop := Inv0 S ∧ (∀ l, l < 3 → b ∉ aL S l) ∧ aB S 0 b = -1 ∧ (∀ l, l < 2 → (b ∈ aL S (3 + l) ↔ aB S 4 b = nI (3 + l))) ∧ (aB S 4 b = -1 ∨ ∃ l, l < 2 ∧ aB S 4 b = nI (3 + l)) ∧ ∀ x, x < 200 → x ≠ b → BOk S x
-- the steps
def aClean (S : AS) (b : Nat) : AS := uB (uB S 1 b (aB S 5 b)) 3 b (-1)
def aLG1 (S : AS) (b : Nat) : AS := if aB S 4 b = -1 then S else uB (uL S (aB S 4 b).toNatClampNeg (pu_rm (aL S (aB S 4 b).toNatClampNeg) b)) 4 b (-1)
def aQ (S : AS) (l m : Nat) : Int32 := nI (aL S l).length / nI (aL S m).length
def aLn (S : AS) (g : Int32) : AS :=
  if g = 3 then uN (uN S 17 (aN S 17 + 1)) 4 (if aN S 4 + (if 1 < aQ S 4 3 then aQ S 4 3 else 1) < aN S 2 then aN S 4 + (if 1 < aQ S 4 3 then aQ S 4 3 else 1) else aN S 2)
  else if g = 4 then uN (uN S 18 (aN S 18 + 1)) 4 (if 0 < aN S 4 - (if 1 < aQ S 3 4 then aQ S 3 4 else 1) then aN S 4 - (if 1 < aQ S 3 4 then aQ S 3 4 else 1) else 0)
  else S
def aFull (S : AS) : Prop := aN S 2 = nI ((aL S 0).length + (aL S 1).length)
def aVl (S : AS) (wf : Int32) : Nat := if (aL S 0).length = 0 then 1 else if aN S 4 < nI (aL S 0).length ∨ nI (aL S 0).length = aN S 4 ∧ wf ≠ 0 ∨ (aL S 1).length = 0 then 0 else 1
def aCn (S : AS) (L : List Nat) (c : Nat) : Nat := L.countP (fun b => decide (aB S 2 b = nI c))
def aUn (S : AS) (c : Nat) : Nat := aCn S (aL S 0) c + aCn S (aL S 1) c
def aSwN (S : AS) : Nat → Nat
  | 0 => 0
  | k + 1 => aSwN S k + (aC S k 0).toNatClampNeg
def aSw (S : AS) : Nat := aSwN S (aN S 6).toNatClampNeg
def aTM (S : AS) (c : Nat) : Bool := decide (¬ nI (aUn S c) * nI (aSw S) ≤ aN S 2 * aC S c 0)
def aVo (S : AS) (l : Nat) : Nat → Nat
  | 0 => (aL S l).getD ((aL S l).length - 1) 0
  | n + 1 => if aTM S (aB S 2 ((aL S l).getD n 0)).toNatClampNeg then (aL S l).getD n 0 else aVo S l n
def aV (S : AS) (wf : Int32) : Nat := aVo S (aVl S wf) (aL S (aVl S wf)).length
def aLG (S : AS) (g : Nat) : AS := if aN S 2 = nI (aL S g).length then uB (uL S g (pu_rm (aL S g) ((aL S g).getD ((aL S g).length - 1) 0))) 4 ((aL S g).getD ((aL S g).length - 1) 0) (-1) else S
def aG2 (S : AS) (x l : Nat) : AS := uL (uB S 4 x (nI (3 + l))) (3 + l) (x :: aL S (3 + l))
def aM2 (S : AS) (x : Nat) : AS := uL (uB S 0 x 2) 2 (x :: aL S 2)
def aN19 (S : AS) : AS := uN S 19 (aN S 19 + 1)
def aDem (S : AS) (x l : Nat) : AS := aN19 (aM2 (uL (aG2 (aLG S (3 + l)) x l) l (pu_rm (aL S l) x)) x)
def aTop (S : AS) (b : Nat) : AS := if aB S 0 b = 2 then uB (uL S 2 (pu_rm (aL S 2) b)) 0 b (-1) else aClean S b
def aWf (g : Int32) : Int32 := if g = 4 then 1 else 0
def aMk (S : AS) (wf : Int32) : AS := @ite _ (aFull S) (inferInstanceAs (Decidable (_ = _))) (aDem (aMR S) (aV S wf) (aVl S wf)) S
def aIn (S : AS) (b l : Nat) : AS := uL (uB S 0 b (nI l)) l (b :: aL S l)
def aLt (g : Int32) : Nat := if g = -1 then 0 else 1
def aS3 (S : AS) (b : Nat) : AS := aLG1 (aLn (aTop S b) (aB S 4 b)) b
def aCome (S : AS) (b : Nat) : AS := aIn (aMk (aS3 S b) (aWf (aB S 4 b))) b (aLt (aB S 4 b))
-- the class's steps
section CC
variable {σ : CacS} {S : AS} {E : Nat → Prop}
theorem c_loseGhost {N b : Nat} (hN : 100 ≤ N) (h : RepC σ S E) (hb : b < 200) (hL : LOk S) (hg : aB S 4 b = -1 ∨ ∃ l, l < 2 ∧ aB S 4 b = nI (3 + l)) : Ok (f_X1_loseGhost N σ (nI b)) (fun t => RepC t (aLG1 S b) E ∧ t 2 = σ 2) := by
  unfold f_X1_loseGhost
  refine ok_bindE (p0_ghostListOf h.2.1 hb) ?_
  unfold aLG1
  by_cases e : aB S 4 b = -1
  · rw [if_pos e, if_pos e]
    exact ok_some ⟨h, rfl⟩
  · rw [if_neg e, if_neg e]
    obtain ⟨l, hl, he⟩ := hg.resolve_left e
    rw [he, nI_clamp (by omega)]
    refine ok_bindE (c_rowOf (by omega)) ?_
    obtain ⟨τ, e1, h1⟩ := p5_takeOut (N := N) (h.2.2.2.1 (3 + l) (by omega)) (hL (3 + l) (by omega)).2 hb hN
    refine ok_bindE e1 (ok_let ?_)
    have hA := h.row (l := 3 + l) (by omega) h1
    refine ok_bind (p0_makeGhostOf hA.2.1 hb (-1)) (fun t ht => ok_let (ok_some ⟨hA.b ht (sB_uB _ _ _ _), ?_⟩))
    rw [va_up_ne _ _ (show 2 ≠ 1 by decide), va_up_ne _ _ (show 2 ≠ 3 + (3 + l) by omega)]
theorem c_learn {g : Int32} (h : RepC σ S E) (h3 : g = 3 → 0 < (aL S 3).length) (h4 : g = 4 → 0 < (aL S 4).length) : Ok (f_X1_learnFrom σ g) (fun t => RepC t (aLn S g) E ∧ (t 2).2 9 = (σ 2).2 9 ∧ (t 2).2 10 = (σ 2).2 10) := by
  have r3 : RowL (σ 6) (aL S 3) := h.2.2.2.1 3 (by decide)
  have r4 : RowL (σ 7) (aL S 4) := h.2.2.2.1 4 (by decide)
  have l3 := r3.1
  have l4 := r4.1
  unfold f_X1_learnFrom aLn
  by_cases e3 : g = 3
  · rw [if_pos e3, if_pos e3]
    refine ok_let ?_
    rw [show (σ 6).2 1 = nI (aL S 3).length from r3.2.1, show (σ 7).2 1 = nI (aL S 4).length from r4.2.1]
    refine ok_f (nI_ne0 (h3 e3) (by omega)) ?_
    unfold dz
    refine ok_f (nI_ne0 (h3 e3) (by omega)) ?_
    unfold f_X1_learnFrom_b45
    refine ok_let (ok_some ⟨?_, rfl, rfl⟩)
    have hA := h.t4 ((σ 2).2 4 + 1)
    rw [show (σ 2).2 4 = aN S 17 from h.2.2.1.2.2.2.2.1] at hA ⊢
    have hB := hA.o14 (if aN S 4 + (if 1 < aQ S 4 3 then aQ S 4 3 else 1) < aN S 2 then aN S 4 + (if 1 < aQ S 4 3 then aQ S 4 3 else 1) else aN S 2)
    have q14 : ((va_up σ 2 (oI (σ 2) 4 (aN S 17 + 1))) 0).2 14 = aN S 4 := h.1.2.2.2.2.2
    have q12 : ((va_up σ 2 (oI (σ 2) 4 (aN S 17 + 1))) 0).2 12 = aN S 2 := h.1.2.2.2.1
    rw [q14, q12]
    exact hB
  · rw [if_neg e3, if_neg e3]
    by_cases e4 : g = 4
    · rw [if_pos e4, if_pos e4]
      refine ok_let ?_
      rw [show (σ 6).2 1 = nI (aL S 3).length from r3.2.1, show (σ 7).2 1 = nI (aL S 4).length from r4.2.1]
      refine ok_f (nI_ne0 (h4 e4) (by omega)) ?_
      unfold dz
      refine ok_f (nI_ne0 (h4 e4) (by omega)) ?_
      unfold f_X1_learnFrom_b101
      refine ok_let (ok_some ⟨?_, rfl, rfl⟩)
      have hA := h.t5 ((σ 2).2 5 + 1)
      rw [show (σ 2).2 5 = aN S 18 from h.2.2.1.2.2.2.2.2.1] at hA ⊢
      have hB := hA.o14 (if 0 < aN S 4 - (if 1 < aQ S 3 4 then aQ S 3 4 else 1) then aN S 4 - (if 1 < aQ S 3 4 then aQ S 3 4 else 1) else 0)
      have q14 : ((va_up σ 2 (oI (σ 2) 5 (aN S 18 + 1))) 0).2 14 = aN S 4 := h.1.2.2.2.2.2
      rw [q14]
      exact hB
    · rw [if_neg e4, if_neg e4]
      exact ok_some ⟨h, rfl, rfl⟩
theorem c_tooLong {wf : Int32} (h : RepC σ S E) : f_X1_isRecentTooLong σ wf = some (if aVl S wf = 0 then 1 else 0) := by
  have r0 : RowL (σ 3) (aL S 0) := h.2.2.2.1 0 (by decide)
  have r1 : RowL (σ 4) (aL S 1) := h.2.2.2.1 1 (by decide)
  have l0 := r0.1
  have l1 := r1.1
  unfold f_X1_isRecentTooLong aVl
  rw [show (σ 3).2 1 = nI (aL S 0).length from r0.2.1, show (σ 4).2 1 = nI (aL S 1).length from r1.2.1, show (σ 0).2 14 = aN S 4 from h.1.2.2.2.2.2]
  by_cases e0 : (aL S 0).length = 0
  · rw [if_pos e0, if_pos (by rw [e0]; rfl), if_neg (by decide)]
  · rw [if_neg e0, if_neg (nI_ne0 (by omega) (by omega))]
    have e1 : (nI (aL S 1).length = 0) ↔ (aL S 1).length = 0 := nI_eq (b := 0) (by omega) (by decide)
    by_cases c1 : aN S 4 < nI (aL S 0).length
    · rw [if_pos c1, if_pos (Or.inl c1)]; rfl
    · rw [if_neg c1]
      by_cases c2 : nI (aL S 0).length = aN S 4
      · rw [if_pos c2]
        by_cases c3 : wf = 0
        · rw [if_pos c3]
          by_cases c4 : (aL S 1).length = 0
          · rw [if_pos (e1.mpr c4), if_pos (Or.inr (Or.inr c4))]; rfl
          · rw [if_neg (fun q => c4 (e1.mp q)), if_neg (show ¬ (aN S 4 < nI (aL S 0).length ∨ nI (aL S 0).length = aN S 4 ∧ wf ≠ 0 ∨ (aL S 1).length = 0) from fun q => q.elim c1 (fun q => q.elim (fun q => q.2 c3) c4))]; rfl
        · rw [if_neg c3, if_pos (Or.inr (Or.inl ⟨c2, c3⟩))]; rfl
      · rw [if_neg c2]
        by_cases c4 : (aL S 1).length = 0
        · rw [if_pos (e1.mpr c4), if_pos (Or.inr (Or.inr c4))]; rfl
        · rw [if_neg (fun q => c4 (e1.mp q)), if_neg (show ¬ (aN S 4 < nI (aL S 0).length ∨ nI (aL S 0).length = aN S 4 ∧ wf ≠ 0 ∨ (aL S 1).length = 0) from fun q => q.elim c1 (fun q => q.elim (fun q => c2 q.1) c4))]; rfl
theorem aSwN_le {k : Nat} (h : ∀ c, c < k → ∃ w, aC S c 0 = nI w ∧ 1 ≤ w ∧ w ≤ 9) : aSwN S k ≤ 9 * k := by
  induction k with
  | zero => exact Nat.le_refl _
  | succ k ih =>
    obtain ⟨w, e, -, h9⟩ := h k (by omega)
    have := ih (fun c hc => h c (by omega))
    rw [aSwN, e, nI_clamp (by omega)]
    omega
theorem c_sum_b4 {N k : Nat} (h : RepC σ S E) (hk : aN S 6 = nI k) (hk4 : k ≤ 4) (hw : ∀ c, c < k → ∃ w, aC S c 0 = nI w ∧ 1 ≤ w ∧ w ≤ 9) : ∀ r n i, i + r = k → r < n → f_X1_sumOfWeights_b4 N n σ (nI (aSwN S i)) (nI i) = some (nI (aSwN S k)) := by
  intro r
  induction r with
  | zero =>
    intro n i hi hn
    obtain ⟨n, rfl⟩ : ∃ m, n = m + 1 := ⟨n - 1, by omega⟩
    have : i = k := by omega
    subst this
    rw [f_X1_sumOfWeights_b4, h.1.1, hk, if_pos (nI_le (Nat.le_refl _) (by omega))]
  | succ r ih =>
    intro n i hi hn
    obtain ⟨n, rfl⟩ : ∃ m, n = m + 1 := ⟨n - 1, by omega⟩
    have hlt : nI i < aN S 6 := by rw [hk]; exact nI_lt (by omega) (by omega)
    obtain ⟨w, e, -, h9⟩ := hw i (by omega)
    rw [f_X1_sumOfWeights_b4, h.1.1, if_neg (fun q => absurd hlt (Int32.not_lt.mpr q)), c_clientOf h (by omega) hlt, Option.bind_some]
    show f_X1_sumOfWeights_b4 N n σ (nI (aSwN S i) + (σ (8 + i)).2 0) (nI i + 1) = _
    rw [h.2.2.2.2 i (by omega) hlt 0 (by decide), e, nI_add, nI_1]
    have : aSwN S i + w = aSwN S (i + 1) := by rw [aSwN, e, nI_clamp (by omega)]
    rw [this]
    exact ih n (i + 1) (by omega) (by omega)
theorem c_sum {N : Nat} (hN : 100 ≤ N) (h : RepC σ S E) (hc : cliOk S) : f_X1_sumOfWeights N σ = some (nI (aSw S)) := by
  obtain ⟨k, hk, hk4, hw⟩ := hc
  have := c_sum_b4 (N := N) h hk hk4 (fun c hc => (hw c hc).1) k N 0 (by omega) (by omega)
  unfold aSw
  rw [hk, nI_clamp (by omega)]
  exact this
theorem c_addOwners_b2 {N l : Nat} (hl : l < 5) (hE : ∀ x ∈ aL S l, x < 200 ∧ ∃ c, c < 4 ∧ aB S 2 x = nI c) : ∀ r n i (σ : CacS), RepC σ S E → i + r = (aL S l).length → r < n → Ok (f_X1_addOwners_b2 N n σ l (nI i)) (fun t => RepC t S E ∧ (∀ c, c < 4 → (t 0).1 8 c = (σ 0).1 8 c + nI (aCn S ((aL S l).drop i) c)) ∧ ∀ j, j ≠ 0 → t j = σ j) := by
  intro r
  induction r with
  | zero =>
    intro n i σ h hi hn
    obtain ⟨n, rfl⟩ : ∃ m, n = m + 1 := ⟨n - 1, by omega⟩
    have hr := h.2.2.2.1 l hl
    have h24 := hr.1
    have : i = (aL S l).length := by omega
    subst this
    rw [f_X1_addOwners_b2, hr.2.1, if_pos (nI_le (Nat.le_refl _) (by omega)), List.drop_length]
    exact ok_some ⟨h, fun c _ => (Int32.add_zero _).symm, fun _ _ => rfl⟩
  | succ r ih =>
    intro n i σ h hi hn
    obtain ⟨n, rfl⟩ : ∃ m, n = m + 1 := ⟨n - 1, by omega⟩
    have hr := h.2.2.2.1 l hl
    have h24 := hr.1
    obtain ⟨hx, c, hc, ec⟩ := hE _ (pu_getD_mem (show i < (aL S l).length by omega))
    rw [f_X1_addOwners_b2, hr.2.1, if_neg (nI_ge (by omega) (by omega))]
    refine ok_bindE (p5_blockAt hr (by omega)) (ok_bindE (p0_ownerOf h.2.1 hx) ?_)
    rw [ec]
    refine ok_f (nI_pos (by omega)) (ok_f (show ¬ (4 : Int32) ≤ nI c from nI_ge (b := 4) hc (by decide)) (ok_gd c rfl hc (by decide) (ok_gd c rfl hc (by decide) (ok_let ?_))))
    rw [nI_clamp (by omega), nI_1]
    refine ok_mono (ih n (i + 1) _ (h.u8 c ((σ 0).1 8 c + 1)) (by omega) (by omega)) (fun t ht => ⟨ht.1, fun c2 hc2 => ?_, fun j hj => (ht.2.2 j hj).trans (va_up_ne _ _ hj)⟩)
    rw [ht.2.1 c2 hc2, pu_dropD (show i < (aL S l).length by omega)]
    show upd ((σ 0).1 8) c ((σ 0).1 8 c + 1) c2 + _ = _
    unfold aCn
    rw [List.countP_cons]
    by_cases e : c2 = c
    · subst e
      rw [upd_eq rfl, if_pos (decide_eq_true ec), Int32.add_assoc, show (1 : Int32) = nI 1 from rfl, nI_add, Nat.add_comm 1]
    · rw [upd_ne e, if_neg (fun q => e ((nI_eq (by omega) (by omega)).mp ((of_decide_eq_true q).symm.trans ec))), Nat.add_zero]
      rfl
theorem aCn_le (L : List Nat) (c : Nat) : aCn S L c ≤ L.length := List.countP_le_length
theorem pu_above {a b c d : Nat} (h1 : a * b < 2 ^ 30) (h2 : c * d < 2 ^ 30) : nI a * nI b - nI c * nI d ≤ 0 ↔ nI a * nI b ≤ nI c * nI d := by
  rw [pk_mul, pk_mul, nI_leI (by omega) (by omega), Int32.le_iff_toInt_le, pk_sub_toInt h1 h2]
  have : (0 : Int32).toInt = 0 := by decide
  omega
theorem c_dem_b93 {N l : Nat} (hl : l < 2) (h : RepC σ S E) (hu : upOk S) (hc : cliOk S) (hE : ∀ x ∈ aL S l, x < 200 ∧ ∃ c, c < 4 ∧ aB S 2 x = nI c ∧ nI c < aN S 6) (ha : ∀ c, c < 4 → (σ 0).1 8 c = nI (aUn S c)) (hp : 0 < (aL S l).length) : ∀ n m, n ≤ (aL S l).length → n < m → f_X1_unitToDemote_b93 N m σ l (nI (aSw S)) (nI n - 1) = some (nI (aVo S l n), σ) := by
  have hr := h.2.2.2.1 l (by omega)
  have h24 := hr.1
  intro n
  induction n with
  | zero =>
    intro m hn hm
    obtain ⟨m, rfl⟩ : ∃ k, m = k + 1 := ⟨m - 1, by omega⟩
    rw [f_X1_unitToDemote_b93, if_pos (show nI 0 - 1 < 0 by decide), hr.2.1, pu_sub1 (by omega), p5_blockAt hr (by omega)]
    rfl
  | succ n ih =>
    intro m hn hm
    obtain ⟨m, rfl⟩ : ∃ k, m = k + 1 := ⟨m - 1, by omega⟩
    obtain ⟨hx, c, hc4, ec, hcn⟩ := hE _ (pu_getD_mem (show n < (aL S l).length by omega))
    obtain ⟨u, u1, u2, u3, u4, -⟩ := hu
    obtain ⟨k, k1, k2, k3⟩ := hc
    have hck : c < k := by rw [k1] at hcn; exact (nI_ltI (by omega) (by omega)).mp hcn
    obtain ⟨w, w1, -, w9⟩ := (k3 c hck).1
    have hs : aSw S ≤ 36 := by
      unfold aSw
      rw [k1, nI_clamp (by omega)]
      have := aSwN_le (S := S) (k := k) (fun c hc => (k3 c hc).1)
      omega
    have hun : aUn S c ≤ 16 := by
      have q0 := aCn_le (S := S) (aL S 0) c
      have q1 := aCn_le (S := S) (aL S 1) c
      unfold aUn
      omega
    have e1 : f_X1_unitsAbove σ (nI c) (nI (aUn S c)) (nI (aSw S)) = some (nI (aUn S c) * nI (aSw S) - aN S 2 * aC S c 0) := by
      unfold f_X1_unitsAbove
      rw [c_clientOf h hc4 hcn, Option.bind_some]
      show some (nI (aUn S c) * nI (aSw S) - (σ 0).2 12 * (σ (8 + c)).2 0) = _
      rw [h.1.2.2.2.1, h.2.2.2.2 c hc4 hcn 0 (by decide)]
    rw [f_X1_unitToDemote_b93, nI_pred, if_neg (nI_pos (by omega)), p5_blockAt hr (by omega), Option.bind_some, p0_ownerOf h.2.1 hx, Option.bind_some, aVo, ec, if_neg (nI_pos (by omega)), if_neg (show ¬ (4 : Int32) ≤ nI c from nI_ge (b := 4) hc4 (by decide)), pu_gd c rfl hc4 (by decide), nI_clamp (by omega), ha c hc4, e1, Option.bind_some]
    have hb1 : aUn S c * aSw S < 2 ^ 30 := Nat.lt_of_le_of_lt (Nat.mul_le_mul hun hs) (by decide)
    have hb2 : u * w < 2 ^ 30 := Nat.lt_of_le_of_lt (Nat.mul_le_mul u3 w9) (by decide)
    have hab : (nI (aUn S c) * nI (aSw S) - aN S 2 * aC S c 0 ≤ 0) ↔ (nI (aUn S c) * nI (aSw S) ≤ aN S 2 * aC S c 0) := by rw [u1, w1]; exact pu_above hb1 hb2
    by_cases e : nI (aUn S c) * nI (aSw S) ≤ aN S 2 * aC S c 0
    · rw [if_pos (hab.mpr e), if_neg (show ¬ aTM S c = true from fun q => of_decide_eq_true q e), pu_s]
      exact ih m (by omega) (by omega)
    · rw [if_neg (fun q => e (hab.mp q)), if_pos (show aTM S c = true from decide_eq_true e)]
      rfl
theorem c_dem_b46 {N l : Nat} (hN : 100 ≤ N) (hl : l < 2) (hu : upOk S) (hc : cliOk S) (hE : ∀ k, k < 2 → ∀ x ∈ aL S k, x < 200 ∧ ∃ c, c < 4 ∧ aB S 2 x = nI c ∧ nI c < aN S 6) (hp : 0 < (aL S l).length) : ∀ r n i (σ : CacS), RepC σ S E → i + r = 4 → r < n → (∀ c, c < i → (σ 0).1 8 c = 0) →
    Ok (f_X1_unitToDemote_b46 N n σ l (nI i)) (fun t => t.1 = nI (aVo S l (aL S l).length) ∧ RepC t.2 S E ∧ ∀ j, j ≠ 0 → t.2 j = σ j) := by
  intro r
  induction r with
  | zero =>
    intro n i σ h hi hn hz
    obtain ⟨n, rfl⟩ : ∃ m, n = m + 1 := ⟨n - 1, by omega⟩
    have : i = 4 := by omega
    subst this
    have h0 : (aL S 0).length ≤ 24 := (h.2.2.2.1 0 (by decide)).1
    have h1 : (aL S 1).length ≤ 24 := (h.2.2.2.1 1 (by decide)).1
    rw [f_X1_unitToDemote_b46, if_pos (show (4 : Int32) ≤ nI 4 by decide)]
    have hE' : ∀ k, k < 2 → ∀ x ∈ aL S k, x < 200 ∧ ∃ c, c < 4 ∧ aB S 2 x = nI c := fun k hk x hx => by
      obtain ⟨a, c, b, d, -⟩ := hE k hk x hx
      exact ⟨a, c, b, d⟩
    refine ok_bind (c_addOwners_b2 (N := N) (l := 0) (by decide) (hE' 0 (by decide)) (aL S 0).length N 0 σ h (by omega) (by omega)) (fun t ht => ?_)
    refine ok_bind (c_addOwners_b2 (N := N) (l := 1) (by decide) (hE' 1 (by decide)) (aL S 1).length N 0 t ht.1 (by omega) (by omega)) (fun t2 ht2 => ?_)
    refine ok_bindE (c_sum hN ht2.1 hc) ?_
    have hr := ht2.1.2.2.2.1 l (by omega)
    have h24 := hr.1
    rw [hr.2.1]
    refine ok_eq (c_dem_b93 hl ht2.1 hu hc (hE l hl) (fun c hc => ?_) hp _ N (Nat.le_refl _) (by omega)) ⟨rfl, ht2.1, fun j hj => (ht2.2.2 j hj).trans (ht.2.2 j hj)⟩
    rw [ht2.2.1 c hc, ht.2.1 c hc, hz c hc, List.drop_zero, List.drop_zero, Int32.zero_add, nI_add]
    rfl
  | succ r ih =>
    intro n i σ h hi hn hz
    obtain ⟨n, rfl⟩ : ∃ m, n = m + 1 := ⟨n - 1, by omega⟩
    rw [f_X1_unitToDemote_b46, if_neg (show ¬ (4 : Int32) ≤ nI i from nI_ge (b := 4) (by omega) (by decide))]
    refine ok_gd i rfl (by omega) (by decide) (ok_let ?_)
    rw [nI_clamp (by omega), nI_1]
    refine ok_mono (ih n (i + 1) _ (h.u8 i 0) (by omega) (by omega) (fun c hc => ?_)) (fun t ht => ⟨ht.1, ht.2.1, fun j hj => (ht.2.2 j hj).trans (va_up_ne _ _ hj)⟩)
    show upd ((σ 0).1 8) i 0 c = 0
    by_cases e : c = i
    · rw [upd_eq e]
    · rw [upd_ne e]; exact hz c (by omega)
theorem aVl_lt (wf : Int32) : aVl S wf < 2 := by
  unfold aVl
  repeat' split
  all_goals decide
theorem aFull_iff {u : Nat} (h : aN S 2 = nI u) (hu : u ≤ 16) (hl : (aL S 0).length + (aL S 1).length ≤ u) : aFull S ↔ u ≤ (aL S 0).length + (aL S 1).length := by
  unfold aFull
  rw [h, nI_eq (by omega) (by omega)]
  omega
theorem aVl_pos (wf : Int32) (h : 0 < (aL S 0).length + (aL S 1).length) : 0 < (aL S (aVl S wf)).length := by
  unfold aVl
  by_cases e0 : (aL S 0).length = 0
  · rw [if_pos e0]; omega
  · rw [if_neg e0]
    split
    · omega
    · next q => exact Nat.pos_of_ne_zero (fun e => q (Or.inr (Or.inr e)))
theorem c_victim {N : Nat} {wf : Int32} (hN : 100 ≤ N) (h : RepC σ S E) (hu : upOk S) (hc : cliOk S) (hE : ∀ k, k < 2 → ∀ x ∈ aL S k, x < 200 ∧ ∃ c, c < 4 ∧ aB S 2 x = nI c ∧ nI c < aN S 6) :
    Ok (f_X1_unitToDemote N σ wf) (fun t => t.1 = @ite _ (aFull S) (inferInstanceAs (Decidable (_ = _))) (nI (aV S wf)) (-1) ∧ RepC t.2 S E ∧ ∀ j, j ≠ 0 → t.2 j = σ j) := by
  have r0 : RowL (σ 3) (aL S 0) := h.2.2.2.1 0 (by decide)
  have r1 : RowL (σ 4) (aL S 1) := h.2.2.2.1 1 (by decide)
  have hu0 := hu
  obtain ⟨u, u1, u2, u3, u4, -⟩ := hu
  unfold f_X1_unitToDemote
  rw [show (σ 0).2 12 = nI u from h.1.2.2.2.1.trans u1, show (σ 3).2 1 = nI (aL S 0).length from r0.2.1, show (σ 4).2 1 = nI (aL S 1).length from r1.2.1, nI_add]
  by_cases e : aFull S
  · have hl := (aFull_iff u1 u3 u4).mp e
    rw [if_pos (nI_le hl (by omega))]
    refine ok_bindE (c_tooLong h) ?_
    rw [if_pos e]
    have hp := aVl_pos (S := S) wf (by omega)
    unfold aV
    rcases (show aVl S wf = 0 ∨ aVl S wf = 1 by have := aVl_lt (S := S) wf; omega) with q | q
    · rw [q] at hp ⊢
      exact ok_f (by decide) (c_dem_b46 hN (by decide) hu0 hc hE hp 4 N 0 σ h rfl (by omega) (fun c hc => absurd hc (Nat.not_lt_zero _)))
    · rw [q] at hp ⊢
      exact ok_t (by decide) (c_dem_b46 hN (by decide) hu0 hc hE hp 4 N 0 σ h rfl (by omega) (fun c hc => absurd hc (Nat.not_lt_zero _)))
  · have hl : ¬ u ≤ (aL S 0).length + (aL S 1).length := fun q => e ((aFull_iff u1 u3 u4).mpr q)
    rw [if_neg (nI_ge (by omega) (by omega)), if_neg e]
    exact ok_some ⟨rfl, h, fun _ _ => rfl⟩
end CC

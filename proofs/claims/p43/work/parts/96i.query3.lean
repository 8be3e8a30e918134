/-! WHAT THE LAW ASKS: loops -/
/-- quotients of small numbers are no NaN, and above 0 just where the first one is (shown at the end, over the whole library) -/
def FlOk : Prop := ∀ x y : Int32, x.toInt.natAbs ≤ 600 → 1 ≤ y.toInt → y.toInt ≤ 36 → FP.fdiv (FP.i2f x) (FP.i2f y) &&& 0x7fffffff ≤ 0x7f800000 ∧ (Op.cmpValue (FP.fcmp (FP.fdiv (FP.i2f x) (FP.i2f y)) FP.fconst0) .l ≤ 0 ↔ x.toInt ≤ 0)
theorem aCt_mono {p q : Nat → Bool} (h : ∀ b, b < 200 → p b = true → q b = true) : ∀ r, r ≤ 200 → ∀ k j, k ≤ j → aCt p r k ≤ aCt q r j := by
  intro r
  induction r with
  | zero => intro _ k j hk; exact hk
  | succ r ih =>
    intro hr k j hk
    rw [aCt, aCt]
    refine ih (by omega) _ _ ?_
    by_cases e : p (200 - (r + 1)) = true
    · rw [if_pos e, if_pos (h _ (by omega) e)]; omega
    · rw [if_neg e]; split <;> omega
theorem aCt_in {p : Nat → Bool} {L : List Nat} (hn : L.Nodup) (hl : ∀ x ∈ L, x < 200) (h : ∀ b, b < 200 → (p b = true ↔ b ∈ L)) : aCt p 200 0 = L.length := by
  have h1 := aCt_list L (fun _ => false) hn (fun x hx => ⟨hl x hx, rfl⟩)
  rw [aCt_z, Nat.zero_add] at h1
  rw [← h1]
  refine aCt_congr (fun b hb => ?_) 200 0 (Nat.le_refl _)
  rw [Bool.eq_iff_iff]
  simp only [Bool.false_or, decide_eq_true_eq]
  exact h b hb
section Q3
variable {N : Nat} {γ : GLS} {S : AS} {w : Nat → Int32} {t k : Nat}
/-- the place of a block's unit -/
def plV (S : AS) (b : Nat) : Int32 := if aB S 0 b = -1 then -1 else pu_pl b (aL S (aB S 0 b).toNatClampNeg) 0
theorem q_pl (hN : 1000 ≤ N) (hC : RepC γ.2.2.1 S E0) (hI : Inv S) {b : Nat} (hb : b < 200) : f_L_block N γ (nI b) 1 = some (plV S b) := by
  unfold plV
  rcases (hI.2 b hb).2.1 with e | ⟨l, hl, e⟩
  · rw [if_pos e]
    refine e_b (e_b (rgN (a := 0) (b := 199) (Nat.zero_le _) (by omega) (by decide)) (e_b (rgN (n := 1) (a := 0) (b := 6) (by decide) (by decide) (by decide)) (e_b (e_f (by decide) (e_t rfl (e_b (e_b (p0_listOf hC.2.1 (fun q => q) hb) (e_t e rfl)) rfl))) rfl))) rfl
  · rw [if_neg (by rw [e]; exact pu_m1 (by omega)), e, nI_clamp (by omega)]
    exact q_b1 hN hC hI hb hl e
-- how many of a list lie between
theorem l_btw {τ : ObjS} {L : List Nat} (h : RowL τ L) (hE : ∀ x ∈ L, x < 200) : ∀ r n i, i + r = L.length → r < n → f_X5_howManyIn_b5 N n τ 0 199 (nI i) (nI i) = some (nI L.length) := by
  intro r
  induction r with
  | zero =>
    intro n i hi hn
    obtain ⟨n, rfl⟩ : ∃ m, n = m + 1 := ⟨n - 1, by omega⟩
    rw [f_X5_howManyIn_b5, h.2.1]
    have e : i = L.length := by omega
    rw [if_pos (by rw [e]; exact Int32.le_refl _), e]
  | succ r ih =>
    intro n i hi hn
    obtain ⟨n, rfl⟩ : ∃ m, n = m + 1 := ⟨n - 1, by omega⟩
    have hl := h.1
    have hx := hE _ (pu_getD_mem (L := L) (i := i) (by omega))
    rw [f_X5_howManyIn_b5, h.2.1]
    refine e_f (nI_ge (by omega) (by omega)) (e_f (pu_ge24 (by omega)) (e_g i rfl (by omega) (by decide) ?_))
    rw [nI_clamp (by omega), h.2.2 i (by omega)]
    refine e_f (nI_pos (by omega)) (e_g i rfl (by omega) (by decide) (e_f ?_ ?_))
    · exact nI_nlt (a := 199) (by omega) (by decide)
    · rw [nI_1]
      exact ih n (i + 1) (by omega) (by omega)
theorem q_btw (hN : 1000 ≤ N) (hC : RepC γ.2.2.1 S E0) (hI : Inv S) {l : Nat} (hl : l < 5) : f_L_between N γ (nI l) 0 199 = some (nI (aL S l).length) := by
  have hr := hC.2.2.2.1 l hl
  have := hr.1
  exact e_b (e_b (ixN (b := 5) hl (by decide)) (e_b (rgN (n := 0) (a := 0) (b := 199) (by decide) (by decide) (by decide)) (e_b (rgN (n := 199) (a := 0) (b := 199) (by decide) (by decide) (by decide)) (e_b (c_rowOf hl) (e_b (l_btw hr (hI.1.1 l hl).2 (aL S l).length N 0 (by omega) (by omega)) rfl))))) rfl
-- the longest chain
theorem l_long {l : Nat} {τ : ObjS} (H : RepB τ S E0) : ∀ r n m ch q, r ≤ 200 → r < n → ch ≤ m → m ≤ q → q ≤ 200 - r → (0 < m ↔ 0 < q) → ∃ m', f_X0_longestChain_b7 N n τ (nI l) (nI m) (nI ch) (nI (200 - r)) = some (nI m') ∧ m' ≤ aCt (fun b => decide (aB S 0 b = nI l ∨ aB S 4 b = nI l)) r q ∧ (0 < m' ↔ 0 < aCt (fun b => decide (aB S 0 b = nI l ∨ aB S 4 b = nI l)) r q) := by
  intro r
  induction r with
  | zero =>
    intro n m ch q _ hn h1 h2 h3 h4
    obtain ⟨n, rfl⟩ : ∃ i, n = i + 1 := ⟨n - 1, by omega⟩
    rw [f_X0_longestChain_b7]
    exact ⟨m, e_t (by decide) rfl, h2, h4⟩
  | succ r ih =>
    intro n m ch q hr hn h1 h2 h3 h4
    obtain ⟨n, rfl⟩ : ∃ i, n = i + 1 := ⟨n - 1, by omega⟩
    have hb : 200 - (r + 1) < 200 := by omega
    have e1 : 200 - (r + 1) + 1 = 200 - r := by omega
    obtain ⟨f0, -, -, -, f4, -⟩ := H.2.2 _ hb
    have f0 := f0 (fun q => q)
    rw [aCt]
    have inn : decide (aB S 0 (200 - (r + 1)) = nI l ∨ aB S 4 (200 - (r + 1)) = nI l) = true → ∃ m', f_X0_longestChain_b42 N (f_X0_longestChain_b7 N n) τ (nI l) (nI m) (nI ch) (nI (200 - (r + 1))) 1 = some (nI m') ∧ m' ≤ aCt (fun b => decide (aB S 0 b = nI l ∨ aB S 4 b = nI l)) r (if decide (aB S 0 (200 - (r + 1)) = nI l ∨ aB S 4 (200 - (r + 1)) = nI l) = true then q + 1 else q) ∧ (0 < m' ↔ 0 < aCt (fun b => decide (aB S 0 b = nI l ∨ aB S 4 b = nI l)) r (if decide (aB S 0 (200 - (r + 1)) = nI l ∨ aB S 4 (200 - (r + 1)) = nI l) = true then q + 1 else q)) := fun hin => by
      rw [if_pos hin]
      unfold f_X0_longestChain_b42
      rw [nI_1, nI_1, e1, if_neg (by decide)]
      by_cases c : m < ch + 1
      · rw [if_pos (nI_lt c (by omega))]
        exact ih n (ch + 1) (ch + 1) (q + 1) (by omega) (by omega) (Nat.le_refl _) (by omega) (by omega) (by omega)
      · rw [if_neg (nI_nlt (by omega) (by omega))]
        exact ih n m (ch + 1) (q + 1) (by omega) (by omega) (by omega) (by omega) (by omega) (by omega)
    have out : ¬ decide (aB S 0 (200 - (r + 1)) = nI l ∨ aB S 4 (200 - (r + 1)) = nI l) = true → ∃ m', f_X0_longestChain_b42 N (f_X0_longestChain_b7 N n) τ (nI l) (nI m) (nI ch) (nI (200 - (r + 1))) 0 = some (nI m') ∧ m' ≤ aCt (fun b => decide (aB S 0 b = nI l ∨ aB S 4 b = nI l)) r (if decide (aB S 0 (200 - (r + 1)) = nI l ∨ aB S 4 (200 - (r + 1)) = nI l) = true then q + 1 else q) ∧ (0 < m' ↔ 0 < aCt (fun b => decide (aB S 0 b = nI l ∨ aB S 4 b = nI l)) r (if decide (aB S 0 (200 - (r + 1)) = nI l ∨ aB S 4 (200 - (r + 1)) = nI l) = true then q + 1 else q)) := fun hin => by
      rw [if_neg hin]
      unfold f_X0_longestChain_b42
      rw [nI_1, e1, if_pos rfl, if_neg (nI_pos (by omega))]
      exact ih n m 0 q (by omega) (by omega) (Nat.zero_le _) h2 (by omega) h4
    rw [f_X0_longestChain_b7]
    by_cases a0 : aB S 0 (200 - (r + 1)) = nI l
    · obtain ⟨m', g1, g2⟩ := inn (decide_eq_true (Or.inl a0))
      refine ⟨m', e_f (pu_ge200 hb) (e_g _ rfl hb (by decide) (e_t ?_ g1)), g2⟩
      rw [nI_clamp (by omega), f0]
      exact a0
    · by_cases a4 : aB S 4 (200 - (r + 1)) = nI l
      · obtain ⟨m', g1, g2⟩ := inn (decide_eq_true (Or.inr a4))
        refine ⟨m', e_f (pu_ge200 hb) (e_g _ rfl hb (by decide) (e_f ?_ (e_g _ rfl hb (by decide) (e_t ?_ g1)))), g2⟩
        · rw [nI_clamp (by omega), f0]
          exact a0
        · rw [nI_clamp (by omega), f4]
          exact a4
      · obtain ⟨m', g1, g2⟩ := out (fun q => (of_decide_eq_true q).elim a0 a4)
        refine ⟨m', e_f (pu_ge200 hb) (e_g _ rfl hb (by decide) (e_f ?_ (e_g _ rfl hb (by decide) (e_f ?_ g1)))), g2⟩
        · rw [nI_clamp (by omega), f0]
          exact a0
        · rw [nI_clamp (by omega), f4]
          exact a4
theorem q_long (hN : 1000 ≤ N) (hC : RepC γ.2.2.1 S E0) (hI : Inv S) {l : Nat} (hl : l < 5) : ∃ m, f_L_longest N γ (nI l) = some (nI m) ∧ m ≤ (aL S l).length ∧ (0 < m ↔ 0 < (aL S l).length) := by
  obtain ⟨m, h1, h2, h3⟩ := l_long (N := N) (l := l) hC.2.1 200 N 0 0 0 (Nat.le_refl _) (by omega) (Nat.le_refl _) (Nat.le_refl _) (by omega) Iff.rfl
  have e : aCt (fun b => decide (aB S 0 b = nI l ∨ aB S 4 b = nI l)) 200 0 = (aL S l).length := aCt_in (hI.1.1 l hl).1 (hI.1.1 l hl).2 (fun b hb => by
    rw [decide_eq_true_eq]
    obtain ⟨b1, b2, b3, b4, -⟩ := hI.2 b hb
    by_cases h : l < 3
    · rw [b1 l h]
      refine ⟨fun q => q.resolve_right fun e => ?_, Or.inl⟩
      rcases b4 with e4 | ⟨g, hg, e4⟩
      · rw [e4] at e; exact pu_m1' (by omega) e
      · rw [e4] at e
        have := (nI_eq (by omega) (by omega)).mp e
        omega
    · obtain ⟨g, rfl⟩ : ∃ g, l = 3 + g := ⟨l - 3, by omega⟩
      rw [b3 g (by omega)]
      refine ⟨fun q => q.resolve_left fun e => ?_, Or.inr⟩
      rcases b2 with e0 | ⟨i, hi, e0⟩
      · rw [e0] at e; exact pu_m1' (by omega) e
      · rw [e0] at e
        have := (nI_eq (by omega) (by omega)).mp e
        omega)
  rw [e] at h2 h3
  exact ⟨m, e_b (e_b (ixN (b := 5) hl (by decide)) (e_b h1 rfl)) rfl, h2, h3⟩
-- what is stale
theorem l_stl {τ : ObjS} (H : RepB τ S E0) (hJ : JN S w t) (ht : t < 2 ^ 30) : ∀ r n q, r ≤ 200 → r < n → f_X0_howManyDirtySince_b4 N n τ (nI t) (nI q) (nI (200 - r)) = some (nI (aCt (isD S) r q)) := by
  intro r
  induction r with
  | zero =>
    intro n q _ hn
    obtain ⟨n, rfl⟩ : ∃ i, n = i + 1 := ⟨n - 1, by omega⟩
    rw [f_X0_howManyDirtySince_b4]
    exact e_t (by decide) rfl
  | succ r ih =>
    intro n q hr hn
    obtain ⟨n, rfl⟩ : ∃ i, n = i + 1 := ⟨n - 1, by omega⟩
    have hb : 200 - (r + 1) < 200 := by omega
    have e1 : 200 - (r + 1) + 1 = 200 - r := by omega
    have f3 := (H.2.2 _ hb).2.2.2.1
    rw [f_X0_howManyDirtySince_b4, aCt]
    refine e_f (pu_ge200 hb) (e_g _ rfl hb (by decide) ?_)
    rw [nI_clamp (by omega), f3, nI_1, nI_1, e1]
    by_cases e : aB S 3 (200 - (r + 1)) = -1
    · rw [if_pos e, if_neg (fun q => (isD_iff.mp q) e)]
      exact ih n q (by omega) (by omega)
    · rw [if_neg e, if_pos (isD_iff.mpr e)]
      obtain ⟨s, hs, es⟩ := (hJ _ hb).2.2.resolve_left e
      refine e_g _ rfl hb (by decide) (e_f ?_ (ih n (q + 1) (by omega) (by omega)))
      rw [es]
      exact nI_nlt hs (by omega)
theorem q_stl (hN : 1000 ≤ N) (hC : RepC γ.2.2.1 S E0) (hJ : JN S w t) (h5 : aN S 5 = nI t) (ht : t < 2 ^ 30) : f_L_stale N γ 0 = some (nI (dC S)) := by
  refine e_b (e_t (by decide) (e_b (a := nI (dC S)) ?_ rfl)) rfl
  rw [hC.2.2.1.1, h5, Int32.sub_zero]
  exact l_stl hC.2.1 hJ ht 200 N 0 (Nat.le_refl _) (by omega)
-- what differs
theorem l_dif {τ : ObjS} (H : RepB τ S E0) : ∀ r n q, r ≤ 200 → r < n → f_X0_howManyDiffer_b4 N n τ (nI q) (nI (200 - r)) = some (nI (aCt (fun b => decide (aB S 0 b ≠ -1 ∧ aB S 1 b ≠ aB S 5 b)) r q)) := by
  intro r
  induction r with
  | zero =>
    intro n q _ hn
    obtain ⟨n, rfl⟩ : ∃ i, n = i + 1 := ⟨n - 1, by omega⟩
    rw [f_X0_howManyDiffer_b4]
    exact e_t (by decide) rfl
  | succ r ih =>
    intro n q hr hn
    obtain ⟨n, rfl⟩ : ∃ i, n = i + 1 := ⟨n - 1, by omega⟩
    have hb : 200 - (r + 1) < 200 := by omega
    have e1 : 200 - (r + 1) + 1 = 200 - r := by omega
    obtain ⟨f0, f1, -, -, -, f5⟩ := H.2.2 _ hb
    have f0 := f0 (fun q => q)
    rw [f_X0_howManyDiffer_b4, aCt]
    refine e_f (pu_ge200 hb) (e_g _ rfl hb (by decide) ?_)
    rw [nI_clamp (by omega), f0, f1, f5, nI_1, nI_1, e1]
    by_cases e : aB S 0 (200 - (r + 1)) = -1
    · rw [if_pos e, if_neg (fun q => (of_decide_eq_true q).1 e)]
      exact ih n q (by omega) (by omega)
    · rw [if_neg e]
      refine e_g _ rfl hb (by decide) (e_g _ rfl hb (by decide) ?_)
      by_cases e2 : aB S 1 (200 - (r + 1)) = aB S 5 (200 - (r + 1))
      · rw [if_pos e2, if_neg (fun q => (of_decide_eq_true q).2 e2)]
        exact ih n q (by omega) (by omega)
      · rw [if_neg e2, if_pos (decide_eq_true ⟨e, e2⟩)]
        exact ih n (q + 1) (by omega) (by omega)
theorem q_dif (hN : 1000 ≤ N) (hC : RepC γ.2.2.1 S E0) (hJ : JN S w t) : ∃ m, f_X8_differing N γ = some (nI m) ∧ m ≤ dC S := by
  refine ⟨_, e_b (l_dif hC.2.1 200 N 0 (Nat.le_refl _) (by omega)) rfl, ?_⟩
  refine aCt_mono (fun b hb h => ?_) 200 (Nat.le_refl _) 0 0 (Nat.le_refl _)
  have h := of_decide_eq_true h
  refine isD_iff.mpr fun e => h.2 ?_
  rw [(hJ b hb).1 h.1, (hJ b hb).2.1 e]
-- what is oldest
def Old (S : AS) (n : Nat) (x : Int32) : Prop := (x = -1 ∧ ∀ y, y < n → aB S 3 y = -1) ∨ ∃ o s, o < 200 ∧ x = nI o ∧ aB S 3 o = nI s ∧ s < 2 ^ 30 ∧ ∀ y, y < n → ∀ u, u < 2 ^ 30 → aB S 3 y = nI u → s ≤ u
theorem l_old {τ : ObjS} (H : RepB τ S E0) (hJ : JN S w t) (ht : t < 2 ^ 30) : ∀ r n x, r ≤ 200 → r < n → Old S (200 - r) x → ∃ v, f_X0_dirtyLongest_b4 N n τ x (nI (200 - r)) = some v ∧ Old S 200 v := by
  intro r
  induction r with
  | zero =>
    intro n x _ hn hx
    obtain ⟨n, rfl⟩ : ∃ i, n = i + 1 := ⟨n - 1, by omega⟩
    rw [f_X0_dirtyLongest_b4]
    exact ⟨x, e_t (by decide) rfl, hx⟩
  | succ r ih =>
    intro n x hr hn hx
    obtain ⟨n, rfl⟩ : ∃ i, n = i + 1 := ⟨n - 1, by omega⟩
    have hb : 200 - (r + 1) < 200 := by omega
    have e1 : 200 - (r + 1) + 1 = 200 - r := by omega
    have f3 := (H.2.2 _ hb).2.2.2.1
    have low : ∀ y, y < 200 - r → y < 200 - (r + 1) ∨ y = 200 - (r + 1) := fun y hy => by omega
    have start : ∃ v, f_X0_dirtyLongest_b4 N (n + 1) τ x (nI (200 - (r + 1))) = some v ∧ Old S 200 v := by
      rw [f_X0_dirtyLongest_b4]
      by_cases e : aB S 3 (200 - (r + 1)) = -1
      · have hx2 : Old S (200 - r) x := by
          rcases hx with ⟨a, h⟩ | ⟨o, s, a, b, c, d, h⟩
          · exact Or.inl ⟨a, fun y hy => (low y hy).elim (h y) (fun q => by rw [q]; exact e)⟩
          · exact Or.inr ⟨o, s, a, b, c, d, fun y hy u hu q => (low y hy).elim (fun z => h y z u hu q) (fun z => by rw [z, e] at q; exact absurd q (pu_m1' (by omega)))⟩
        obtain ⟨v, g1, g2⟩ := ih n x (by omega) (by omega) hx2
        refine ⟨v, e_f (pu_ge200 hb) (e_g _ rfl hb (by decide) (e_t ?_ ?_)), g2⟩
        · rw [nI_clamp (by omega), f3]; exact e
        · rw [nI_1, e1]; exact g1
      · obtain ⟨s0, hs0, es0⟩ := (hJ _ hb).2.2.resolve_left e
        have new : (∀ y, y < 200 - (r + 1) → ∀ u, u < 2 ^ 30 → aB S 3 y = nI u → s0 ≤ u) → Old S (200 - r) (nI (200 - (r + 1))) := fun h => Or.inr ⟨_, s0, hb, rfl, es0, by omega, fun y hy u hu q => (low y hy).elim (fun z => h y z u hu q) (fun z => by rw [z, es0] at q; have := (nI_eq (by omega) (by omega)).mp q; omega)⟩
        have hd : ¬ τ.1 3 (Int32.toNatClampNeg (nI (200 - (r + 1)))) = -1 := by rw [nI_clamp (by omega), f3]; exact e
        rcases hx with ⟨a, h⟩ | ⟨o, s, a, b, c, d, h⟩
        · obtain ⟨v, g1, g2⟩ := ih n _ (by omega) (by omega) (new (fun y hy u hu q => by rw [h y hy] at q; exact absurd q (pu_m1' (by omega))))
          refine ⟨v, e_f (pu_ge200 hb) (e_g _ rfl hb (by decide) (e_f hd (e_t a ?_))), g2⟩
          rw [nI_1, e1]; exact g1
        · subst b
          have hso : f_X0_sinceOf τ (nI o) = some (nI s) := (p0_sinceOf H a).trans (by rw [c])
          by_cases h9 : s ≤ s0
          · have hx2 : Old S (200 - r) (nI o) := Or.inr ⟨o, s, a, rfl, c, d, fun y hy u hu q => (low y hy).elim (fun z => h y z u hu q) (fun z => by rw [z, es0] at q; have := (nI_eq (by omega) (by omega)).mp q; omega)⟩
            obtain ⟨v, g1, g2⟩ := ih n _ (by omega) (by omega) hx2
            refine ⟨v, e_f (pu_ge200 hb) (e_g _ rfl hb (by decide) (e_f hd (e_f (pu_m1 (by omega)) (e_g _ rfl hb (by decide) (e_b hso (e_t ?_ ?_)))))), g2⟩
            · rw [nI_clamp (by omega), f3, es0]; exact nI_le h9 (by omega)
            · rw [nI_1, e1]; exact g1
          · obtain ⟨v, g1, g2⟩ := ih n _ (by omega) (by omega) (new (fun y hy u hu q => by have := h y hy u hu q; omega))
            refine ⟨v, e_f (pu_ge200 hb) (e_g _ rfl hb (by decide) (e_f hd (e_f (pu_m1 (by omega)) (e_g _ rfl hb (by decide) (e_b hso (e_f ?_ ?_)))))), g2⟩
            · rw [nI_clamp (by omega), f3, es0]; exact nI_ge (by omega) (by omega)
            · rw [nI_1, e1]; exact g1
    exact start
theorem q_old (hN : 1000 ≤ N) (hC : RepC γ.2.2.1 S E0) (hJ : JN S w t) (ht : t < 2 ^ 30) : ∃ v, f_X8_oldest N γ = some v ∧ Old S 200 v := by
  obtain ⟨v, h1, h2⟩ := l_old (N := N) hC.2.1 hJ ht 200 N (-1) (Nat.le_refl _) (by omega) (Or.inl ⟨rfl, fun y hy => by omega⟩)
  exact ⟨v, e_b h1 rfl, h2⟩
-- what a client owns in a list
theorem l_own {l c idx : Nat} (hC : RepC γ.2.2.1 S E0) (hI : Inv S) (hl : l < 3) (hidx : idx < 2 ^ 30) : ∀ r n i q, i + r = (aL S l).length → r < n → q ≤ idx → ∃ v, f_X1_ownedBlock_b13 N n γ.2.2.1 (nI c) (nI idx) l (nI q) (nI i) = some v ∧ (v < 0 ↔ q + aCn S ((aL S l).drop i) c ≤ idx) := by
  have hr := hC.2.2.2.1 l (by omega)
  have h24 := hr.1
  intro r
  induction r with
  | zero =>
    intro n i q hi hn hq
    obtain ⟨n, rfl⟩ : ∃ m, n = m + 1 := ⟨n - 1, by omega⟩
    rw [f_X1_ownedBlock_b13, hr.2.1]
    refine ⟨-1, e_t (nI_le (by omega) (by omega)) rfl, ?_⟩
    rw [List.drop_of_length_le (by omega)]
    exact ⟨fun _ => hq, fun _ => by decide⟩
  | succ r ih =>
    intro n i q hi hn hq
    obtain ⟨n, rfl⟩ : ∃ m, n = m + 1 := ⟨n - 1, by omega⟩
    have hlt : i < (aL S l).length := by omega
    obtain ⟨x2, x3, -, o, o1, o2, -⟩ := hI.mem hl (pu_getD_mem (L := aL S l) (i := i) hlt)
    have hown := p0_ownerOf hC.2.1 x2
    have hcnt : aCn S ((aL S l).drop i) c = aCn S ((aL S l).drop (i + 1)) c + (if aB S 2 ((aL S l).getD i 0) = nI c then 1 else 0) := by
      unfold aCn
      rw [pu_dropD hlt, List.countP_cons]
      simp only [decide_eq_true_eq]
    have go : ∀ r', (f_X5_blockAt (γ.2.2.1 (3 + l)) (nI i)).bind (fun r2 => (f_X0_ownerOf (γ.2.2.1 1) r2).bind fun r4 => if r4 = nI c then if nI q = nI idx then some r2 else f_X1_ownedBlock_b13 N n γ.2.2.1 (nI c) (nI idx) l (nI q + 1) (nI i + 1) else f_X1_ownedBlock_b13 N n γ.2.2.1 (nI c) (nI idx) l (nI q) (nI i + 1)) = r' → f_X1_ownedBlock_b13 N (n + 1) γ.2.2.1 (nI c) (nI idx) l (nI q) (nI i) = r' := fun r' h => by
      rw [f_X1_ownedBlock_b13, hr.2.1]
      exact e_f (nI_ge hlt (by omega)) h
    rw [hcnt]
    by_cases e : aB S 2 ((aL S l).getD i 0) = nI c
    · rw [if_pos e]
      by_cases e2 : q = idx
      · refine ⟨nI ((aL S l).getD i 0), go _ (e_b (p5_blockAt hr hlt) (e_b hown (e_t e (e_t (by rw [e2]) rfl)))), ?_⟩
        exact ⟨fun h => absurd h (nI_pos (by omega)), fun h => by omega⟩
      · obtain ⟨v, g1, g2⟩ := ih n (i + 1) (q + 1) (by omega) (by omega) (by omega)
        refine ⟨v, go _ (e_b (p5_blockAt hr hlt) (e_b hown (e_t e (e_f (fun h => e2 ((nI_eq (by omega) (by omega)).mp h)) ?_)))), by rw [g2]; omega⟩
        rw [nI_1, nI_1]
        exact g1
    · rw [if_neg e]
      obtain ⟨v, g1, g2⟩ := ih n (i + 1) q (by omega) (by omega) hq
      refine ⟨v, go _ (e_b (p5_blockAt hr hlt) (e_b hown (e_f e ?_))), by rw [g2]; omega⟩
      rw [nI_1]
      exact g1
theorem q_own {l c idx : Nat} (hN : 1000 ≤ N) (hC : RepC γ.2.2.1 S E0) (hI : Inv S) (hk : aN S 6 = nI k) (hk4 : k ≤ 4) (hc : c < k) (hl : l < 3) (hidx : idx < 2 ^ 30) : ∃ v, f_L_ownedAt N γ (nI c) (nI l) (nI idx) = some v ∧ (v < 0 ↔ aCn S (aL S l) c ≤ idx) := by
  have h24 := (hC.2.2.2.1 l (by omega)).1
  obtain ⟨v, h1, h2⟩ := l_own (N := N) (c := c) hC hI hl hidx (aL S l).length N 0 0 (by omega) (by omega) (Nat.zero_le _)
  rw [List.drop_zero, Nat.zero_add] at h2
  exact ⟨v, e_b (e_b (ccN hC hk hk4 hc) (e_b (ixN (b := 3) hl (by decide)) (e_b (nnN (by omega)) (e_b (e_b (c_rowOf (by omega)) h1) rfl)))) rfl, h2⟩
-- how much a client has above its share
theorem q_exc (hFl : FlOk) (hN : 1000 ≤ N) (hC : RepC γ.2.2.1 S E0) (hI : Inv S) (hk : aN S 6 = nI k) (h1 : 1 ≤ k) (hk4 : k ≤ 4) {c : Nat} (hc : c < k) : ∃ x, f_L_excess N γ (nI c) = some x ∧ (Op.cmpValue (FP.fcmp x FP.fconst0) .l ≤ 0 ↔ nI (aUn S c) * nI (aSw S) - aN S 2 * aC S c 0 ≤ 0) := by
  have hs0 := aSw_pos hI hk h1 hk4
  have hs1 := aSw_le hI.1.2.2.2.1
  have hu := aUn_le hI c
  obtain ⟨kk, kk1, kk2, kk3⟩ := hI.1.2.2.2.1
  have ekk : kk = k := (nI_eq (by omega) (by omega)).mp (kk1.symm.trans hk)
  subst ekk
  obtain ⟨⟨wt, w1, w2, w3⟩, -⟩ := kk3 c hc
  obtain ⟨u, u1, u2, u3, -⟩ := hI.1.2.2.1
  have p1 : aUn S c * aSw S ≤ 16 * 36 := Nat.mul_le_mul hu hs1
  have p2 : u * wt ≤ 16 * 9 := Nat.mul_le_mul u3 w3
  have ex : nI (aUn S c) * nI (aSw S) - aN S 2 * aC S c 0 = nI (aUn S c * aSw S) - nI (u * wt) := by
    rw [u1, w1, pk_mul, pk_mul]
  have hx := pk_sub_toInt (a := aUn S c * aSw S) (b := u * wt) (by omega) (by omega)
  have hy : (nI (aSw S)).toInt = (aSw S : Int) := nI_toInt (by omega)
  obtain ⟨f1, f2⟩ := hFl (nI (aUn S c * aSw S) - nI (u * wt)) (nI (aSw S)) (by rw [hx]; omega) (by rw [hy]; omega) (by rw [hy]; omega)
  refine ⟨_, e_b (e_b (ccN hC hk hk4 hc) (e_b (c_sum (by omega) hC hI.1.2.2.2.1) (e_b (c_upper (by omega) hC hI (by omega)) (e_b (c_above hC hk hk4 hc) (e_f (nI_ne0 (by omega) (by omega)) (by rw [ex]; exact if_pos f1)))))) rfl, ?_⟩
  rw [f2, ex, Int32.le_iff_toInt_le]
  rfl
end Q3

/-! foretells() OF THE LAW: reads ahead, the best length, and the reads themselves -/
/-- one pass of reads; some passes -/
def aPs (c a : Nat) : Nat → Nat → AS → AS
  | 0, _, S => S
  | r + 1, i, S => aPs c a r (i + 1) (aAcc S c (a + i) 0)
def aRp (c a m : Nat) : Nat → AS → AS
  | 0, S => S
  | r + 1, S => aRp c a m r (aPs c a m 0 S)
def gJ (j : Nat) : Nat := if j = 0 then 14 else if j = 1 then 15 else if j = 2 then 16 else if j = 3 then 19 else if j = 4 then 21 else if j = 5 then 4 else 22
def dV (T S : AS) (j : Nat) : Int32 := if j = 5 then aN T 4 else aN T (gJ j) - aN S (gJ j)
def gN (S : AS) (c a m R l : Nat) : Int32 := dV (aRp c a m R (uN S 0 (nI l))) S 0 + dV (aRp c a m R (uN S 0 (nI l))) S 1
def aBest (G : Nat → Int32) : Nat → Nat → Int32 → Int32 → Int32
  | 0, _, b, _ => b
  | r + 1, l, b, m => if G l ≤ m then aBest G r (l + 1) b m else aBest G r (l + 1) (nI l) (G l)
section FR
variable {N n v d bb t k c a m R b : Nat} {z : ZS} {δ : LwS} {S : AS} {w : Nat → Int32}
theorem Ps_I (hk4 : k ≤ 4) (hc : c < k) : ∀ r i S, a + i + r ≤ 200 → Inv S → aN S 6 = nI k → Inv (aPs c a r i S) ∧ aN (aPs c a r i S) 6 = nI k := by
  intro r
  induction r with
  | zero => intro i S _ hI hk; exact ⟨hI, hk⟩
  | succ r ih =>
    intro i S hr hI hk
    exact ih (i + 1) _ (by omega) (Inv_acc hI (by omega) (by omega) (by rw [hk]; exact nI_lt hc (by omega))) (aN6_acc.trans hk)
theorem l_row {k23 : GLS → Int32 → Int32 → Int32 → Int32 → Int32 → Option GLS} {x4 x6 : Int32} (hN : 1000 ≤ N) (hk4 : k ≤ 4) (hc : c < k) (ha : a + m ≤ 200) : ∀ r n i (γ : GLS) S, i + r = m → r < n → RepC γ.2.2.2.1 S E0 → Inv S → aN S 6 = nI k → ∃ τ, RepC τ (aPs c a r i S) E0 ∧ f_X8_readAhead_b33 N k23 n γ (nI c) (nI a) (nI m) x4 x6 (nI i) = k23 (γ.1, γ.2.1, γ.2.2.1, τ, γ.2.2.2.2) (nI c) (nI a) (nI m) x4 (x6 + 1) := by
  intro r
  induction r with
  | zero =>
    intro n i γ S hi hn hC hI hk
    obtain ⟨n, rfl⟩ : ∃ j, n = j + 1 := ⟨n - 1, by omega⟩
    exact ⟨γ.2.2.2.1, hC, by rw [f_X8_readAhead_b33, if_pos (nI_le (by omega) (by omega))]⟩
  | succ r ih =>
    intro n i γ S hi hn hC hI hk
    obtain ⟨n, rfl⟩ : ∃ j, n = j + 1 := ⟨n - 1, by omega⟩
    have hn4 : nI c < aN S 6 := by rw [hk]; exact nI_lt hc (by omega)
    obtain ⟨⟨y, τ⟩, e2, f1, f2, f3, f4⟩ := c_access (N := N) (σ := γ.2.2.2.1) (w := 0) hN hC hI (b := a + i) (by omega) (c := c) (by omega) hn4
    obtain ⟨τ', g1, g2⟩ := ih n (i + 1) (γ.1, γ.2.1, γ.2.2.1, τ, γ.2.2.2.2) _ (by omega) (by omega) f2 (Inv_acc hI (by omega) (by omega) hn4) (aN6_acc.trans hk)
    refine ⟨τ', g1, ?_⟩
    rw [f_X8_readAhead_b33]
    refine e_f (nI_ge (by omega) (by omega)) ?_
    rw [nI_add]
    refine e_b e2 (e_l ?_)
    rw [nI_1]
    exact g2
theorem l_all (hN : 1000 ≤ N) (hk4 : k ≤ 4) (hc : c < k) (ha : a + m ≤ 200) (hR : R ≤ 4) : ∀ r n q (γ : GLS) S, q + r = R → r < n → RepC γ.2.2.2.1 S E0 → Inv S → aN S 6 = nI k → ∃ τ, RepC τ (aRp c a m r S) E0 ∧ f_X8_readAhead_b23 N n γ (nI c) (nI a) (nI m) (nI R) (nI q) = some (γ.1, γ.2.1, γ.2.2.1, τ, γ.2.2.2.2) := by
  intro r
  induction r with
  | zero =>
    intro n q γ S hi hn hC hI hk
    obtain ⟨n, rfl⟩ : ∃ j, n = j + 1 := ⟨n - 1, by omega⟩
    exact ⟨γ.2.2.2.1, hC, by rw [f_X8_readAhead_b23, if_pos (nI_le (by omega) (by omega))]⟩
  | succ r ih =>
    intro n q γ S hi hn hC hI hk
    obtain ⟨n, rfl⟩ : ∃ j, n = j + 1 := ⟨n - 1, by omega⟩
    obtain ⟨τ, g1, g2⟩ := l_row (k23 := f_X8_readAhead_b23 N n) (x4 := nI R) (x6 := nI q) hN hk4 hc ha m N 0 γ S (by omega) (by omega) hC hI hk
    obtain ⟨p1, p2⟩ := Ps_I (a := a) hk4 hc m 0 S (by omega) hI hk
    obtain ⟨τ', h1, h2⟩ := ih n (q + 1) (γ.1, γ.2.1, γ.2.2.1, τ, γ.2.2.2.2) _ (by omega) (by omega) g1 p1 p2
    refine ⟨τ', h1, ?_⟩
    rw [f_X8_readAhead_b23]
    refine e_f (nI_ge (by omega) (by omega)) ?_
    rw [nI_1] at g2
    exact g2.trans h2
theorem Inv_u0 (hI : Inv S) {l : Nat} (h2 : 2 ≤ l) (h20 : l ≤ 20) : Inv (uN S 0 (nI l)) := ⟨⟨hI.1.1, hI.1.2.1, hI.1.2.2.1, hI.1.2.2.2.1, hI.1.2.2.2.2.1, ⟨⟨l, rfl, h2, h20⟩, hI.1.2.2.2.2.2.2⟩⟩, hI.2⟩
theorem c_ahead {γ : GLS} (hN : 1000 ≤ N) (hC : RepC γ.2.2.1 S E0) (hI : Inv S) (hk : aN S 6 = nI k) (hk4 : k ≤ 4) (hc : c < k) (ha : a + m ≤ 200) (hR : R ≤ 4) {l : Nat} (h2 : 2 ≤ l) (h20 : l ≤ 20) : ∃ τ, RepC τ (aRp c a m R (uN S 0 (nI l))) E0 ∧ f_X8_readAhead N γ (nI c) (nI a) (nI m) (nI R) (nI l) = some (γ.1, γ.2.1, γ.2.2.1, τ, γ.2.2.2.2) := by
  obtain ⟨r, e1, c1, -⟩ := c_copy (N := N) (σ := γ.2.2.2.1) hN hC hI.1.2.2.2.1
  obtain ⟨τ, g1, g2⟩ := l_all (c := c) (a := a) (m := m) (R := R) hN hk4 hc ha hR R N 0 (γ.1, γ.2.1, γ.2.2.1, va_up r 0 (oI (r 0) 10 (nI l)), γ.2.2.2.2) (uN S 0 (nI l)) (by omega) (by omega) (c1.o10 (nI l)) (Inv_u0 hI h2 h20) hk
  exact ⟨τ, g1, e_b e1 (e_l (e_l g2))⟩
theorem c_dif {γ : GLS} {T : AS} (hT : RepC γ.2.2.2.1 T E0) (hS : RepC γ.2.2.1 S E0) {j : Nat} (hj : j < 7) : f_X8_differenceAhead γ (nI j) = some (dV T S j) := by
  have tT := hT.2.2.1
  have tS := hS.2.2.1
  rcases (show j = 0 ∨ j = 1 ∨ j = 2 ∨ j = 3 ∨ j = 4 ∨ j = 5 ∨ j = 6 by omega) with rfl | rfl | rfl | rfl | rfl | rfl | rfl
  · exact e_t rfl (congrArg some (by rw [tT.2.1, tS.2.1]; rfl))
  · exact e_f (by decide) (e_t rfl (congrArg some (by rw [tT.2.2.1, tS.2.2.1]; rfl)))
  · exact e_f (by decide) (e_f (by decide) (e_t rfl (congrArg some (by rw [tT.2.2.2.1, tS.2.2.2.1]; rfl))))
  · exact e_f (by decide) (e_f (by decide) (e_f (by decide) (e_t rfl (congrArg some (by rw [tT.2.2.2.2.2.2.1, tS.2.2.2.2.2.2.1]; rfl)))))
  · exact e_f (by decide) (e_f (by decide) (e_f (by decide) (e_f (by decide) (e_t rfl (congrArg some (by rw [hT.2.1.2.1, hS.2.1.2.1]; rfl))))))
  · exact e_f (by decide) (e_f (by decide) (e_f (by decide) (e_f (by decide) (e_f (by decide) (e_t rfl (congrArg some hT.1.2.2.2.2.2))))))
  · exact e_f (by decide) (e_f (by decide) (e_f (by decide) (e_f (by decide) (e_f (by decide) (e_f (by decide) (congrArg some (by rw [tT.2.2.2.2.2.2.2.2, tS.2.2.2.2.2.2.2.2]; rfl)))))))
theorem raN {γ : GLS} (hC : RepC γ.2.2.1 S E0) (hk : aN S 6 = nI k) (hk4 : k ≤ 4) (hc : c < k) (ha : a < 200) (h1 : 1 ≤ m) (hm : m ≤ 40) (ham : a + m ≤ 200) (hR1 : 1 ≤ R) (hR : R ≤ 4) : f_X8_needReadsAhead γ (nI c) (nI a) (nI m) (nI R) = some () := by
  refine e_b (ccN hC hk hk4 hc) (e_b (rgN (a := 0) (b := 199) (Nat.zero_le _) (by omega) (by decide)) (e_b (rg (nI_nlt (b := 1) h1 (by omega)) ?_) (e_b (rgN (a := 1) (b := 4) hR1 hR (by decide)) rfl)))
  have e : (200 : Int32) - nI a = nI (200 - a) := pk_sub (a := 200) (by omega)
  rw [e]
  by_cases h : 200 - a < 40
  · rw [if_pos (show nI (200 - a) < 40 from nI_lt (b := 40) h (by decide))]
    exact nI_le (by omega) (by omega)
  · rw [if_neg (show ¬ nI (200 - a) < 40 from nI_nlt (b := 40) (by omega) (by omega))]
    exact nI_le (b := 40) (by omega) (by decide)
theorem uN0_id {x : Int32} (h : aN S 0 = x) : uN S 0 x = S := by
  refine AS_ext (fun j => ?_) (fun _ => rfl) (fun _ _ => rfl) (fun _ _ => rfl)
  rw [aN_uN]
  split
  · next e => rw [e, h]
  · rfl
theorem uN_uN {x y : Int32} : uN (uN S 0 x) 0 y = uN S 0 y := by
  refine AS_ext (fun j => ?_) (fun _ => rfl) (fun _ _ => rfl) (fun _ _ => rfl)
  rw [aN_uN, aN_uN, aN_uN]
  split <;> rfl
def Aok (k c a m R : Nat) : Prop := k ≤ 4 ∧ c < k ∧ a < 200 ∧ 1 ≤ m ∧ m ≤ 40 ∧ a + m ≤ 200 ∧ 1 ≤ R ∧ R ≤ 4
/-- reads ahead -/
theorem q_ahead (hN : 1000 ≤ N) (hd : Hd δ S n v d bb w) (hI : Inv S) (hk : aN S 6 = nI k) (hA : Aok k c a m R) {j : Nat} (hj : j < 7) : Ok (f_L_ahead N δ.2 (nI c) (nI a) (nI m) (nI R) (nI j)) (fun r => r.1 = dV (aRp c a m R S) S j ∧ Hd (δ.1, r.2) S n v d bb w) := by
  obtain ⟨hk4, hc, ha, h1, hm, ham, hR1, hR⟩ := hA
  obtain ⟨hC, hH, hw4, hd4, hb4, hb5⟩ := hd
  obtain ⟨l, l1, l2, l20⟩ := hI.1.2.2.2.2.2.1
  obtain ⟨τ, g1, g2⟩ := c_ahead (γ := δ.2) (c := c) (a := a) (m := m) (R := R) hN hC hI hk hk4 hc ham hR l2 l20
  have e10 : (δ.2.2.2.1 0).2 10 = nI l := hC.1.2.1.trans l1
  rw [uN0_id l1] at g1
  refine ⟨(dV (aRp c a m R S) S j, (δ.2.1, δ.2.2.1, δ.2.2.2.1, τ, δ.2.2.2.2.2)), e_b (e_b (raN hC hk hk4 hc ha h1 hm ham hR1 hR) (e_b (rgN (a := 0) (b := 6) (Nat.zero_le _) (by omega) (by decide)) (e_b (by rw [e10]; exact g2) (e_b (c_dif (γ := (δ.2.1, δ.2.2.1, δ.2.2.2.1, τ, δ.2.2.2.2.2)) g1 hC hj) rfl)))) rfl, rfl, hC, hH, hw4, hd4, hb4, hb5⟩
/-- the best length, by the class -/
theorem l_best (hN : 1000 ≤ N) (hI : Inv S) (hk : aN S 6 = nI k) (hA : Aok k c a m R) : ∀ r n l b M (γ : GLS), l + r = 21 → 2 ≤ l → r < n → RepC γ.2.2.1 S E0 → ∃ τ, f_X8_bestLength_b18 N n γ (nI c) (nI a) (nI m) (nI R) b M (nI l) = some (aBest (gN S c a m R) r l b M, (γ.1, γ.2.1, γ.2.2.1, τ, γ.2.2.2.2)) := by
  obtain ⟨hk4, hc, ha, h1, hm, ham, hR1, hR⟩ := hA
  intro r
  induction r with
  | zero =>
    intro n l b M γ hl h2 hn hC
    obtain ⟨n, rfl⟩ : ∃ j, n = j + 1 := ⟨n - 1, by omega⟩
    refine ⟨γ.2.2.2.1, ?_⟩
    rw [f_X8_bestLength_b18, if_pos (show (20 : Int32) < nI l from nI_lt (a := 20) (by omega) (by omega))]
    rfl
  | succ r ih =>
    intro n l b M γ hl h2 hn hC
    obtain ⟨n, rfl⟩ : ∃ j, n = j + 1 := ⟨n - 1, by omega⟩
    obtain ⟨τ, g1, g2⟩ := c_ahead (γ := γ) (c := c) (a := a) (m := m) (R := R) hN hC hI hk hk4 hc ham hR h2 (by omega)
    have d0 := c_dif (γ := (γ.1, γ.2.1, γ.2.2.1, τ, γ.2.2.2.2)) (j := 0) g1 hC (by decide)
    have d1 := c_dif (γ := (γ.1, γ.2.1, γ.2.2.1, τ, γ.2.2.2.2)) (j := 1) g1 hC (by decide)
    by_cases h : gN S c a m R l ≤ M
    · obtain ⟨τ', e⟩ := ih n (l + 1) b M (γ.1, γ.2.1, γ.2.2.1, τ, γ.2.2.2.2) (by omega) (by omega) (by omega) hC
      refine ⟨τ', ?_⟩
      rw [f_X8_bestLength_b18, aBest, if_pos h]
      refine e_f (show ¬ (20 : Int32) < nI l from nI_nlt (a := 20) (by omega) (by decide)) (e_b g2 (e_b d0 (e_b d1 (e_t h ?_))))
      rw [nI_1]
      exact e
    · obtain ⟨τ', e⟩ := ih n (l + 1) (nI l) (gN S c a m R l) (γ.1, γ.2.1, γ.2.2.1, τ, γ.2.2.2.2) (by omega) (by omega) (by omega) hC
      refine ⟨τ', ?_⟩
      rw [f_X8_bestLength_b18, aBest, if_neg h]
      refine e_f (show ¬ (20 : Int32) < nI l from nI_nlt (a := 20) (by omega) (by decide)) (e_b g2 (e_b d0 (e_b d1 (e_f h ?_))))
      rw [nI_1]
      exact e
theorem q_best (hN : 1000 ≤ N) (hd : Hd δ S n v d bb w) (hI : Inv S) (hk : aN S 6 = nI k) (hA : Aok k c a m R) : Ok (f_L_bestLength N δ.2 (nI c) (nI a) (nI m) (nI R)) (fun r => r.1 = aBest (gN S c a m R) 19 2 (-1) (-1) ∧ Hd (δ.1, r.2) S n v d bb w) := by
  obtain ⟨τ, e⟩ := l_best hN hI hk hA 19 N 2 (-1) (-1) δ.2 rfl (by decide) (by omega) hd.1
  obtain ⟨hk4, hc, ha, h1, hm, ham, hR1, hR⟩ := hA
  exact ⟨_, e_b (e_b (raN hd.1 hk hk4 hc ha h1 hm ham hR1 hR) e) rfl, rfl, hd⟩
-- the reads themselves
abbrev Qf (k T d : Nat) {α : Type} : Int32 × LwS × α → Prop := fun r => r.1 = 1 ∧ ∃ t', t' ≤ T ∧ Nz k t' d r.2.1
theorem p_340 {h g : Nat → Int32} {κ : CacS} {T : Nat} (hd : Hd δ S n v d bb w) (hS : SI S w k t) (ht : t ≤ T) (hg : ∀ j, j < 7 → g j = nI (gJ j)) (hh : ∀ j, j < 7 → h j = aN S (gJ j)) : ∀ r n j, j + r = 7 → r < n → Ok (f_L_foretells_b340 N n 7 7 z δ h g κ (nI j)) (Qf k T d) := by
  intro r
  induction r with
  | zero =>
    intro n j hj hn
    obtain ⟨n, rfl⟩ : ∃ i, n = i + 1 := ⟨n - 1, by omega⟩
    rw [f_L_foretells_b340]
    exact ok_t (nI_le (a := 7) (by omega) (by omega)) (ok_some ⟨rfl, t, ht, _, _, _, _, _, _, Nat.le_refl _, hd, hS⟩)
  | succ r ih =>
    intro n j hj hn
    obtain ⟨n, rfl⟩ : ∃ i, n = i + 1 := ⟨n - 1, by omega⟩
    rw [f_L_foretells_b340]
    refine ok_f (nI_ge (b := 7) (by omega) (by decide)) (ok_gd j rfl (by omega) (by decide) ?_)
    rw [nI_clamp (by omega), hg j (by omega)]
    refine ok_bindE (q_n hd.1 (j := gJ j) ?_) (ok_gd j rfl (by omega) (by decide) (ok_t (hh j (by omega)).symm ?_))
    · unfold gJ
      repeat' split
      all_goals omega
    · rw [nI_1]
      exact ih n (j + 1) (by omega) (by omega)
theorem p_295 {k285 : Nat → Nat → ZS → LwS → (Nat → Int32) → (Nat → Int32) → CacS → Int32 → Int32 → Int32 → Int32 → Int32 → Option (Int32 × LwS × (Nat → Int32) × (Nat → Int32) × CacS)} {h g : Nat → Int32} {κ : CacS} {x4 x10 : Int32} {Q : Int32 × LwS × (Nat → Int32) × (Nat → Int32) × CacS → Prop} (hN : 1000 ≤ N) (hA : Aok k c a m R) : ∀ r nn i (δ : LwS) S n v t, i + r = m → r < nn → Hd δ S n v d bb w → SI S w k t → t + r < 2 ^ 20 → (∀ δ' n' v', Hd δ' (aPs c a r i S) n' v' d bb w → SI (aPs c a r i S) w k (t + r) → Ok (k285 7 7 z δ' h g κ (nI c) (nI a) (nI m) x4 (x10 + 1)) Q) → Ok (f_L_foretells_b295 N k285 nn 7 7 z δ h g κ (nI c) (nI a) (nI m) x4 x10 (nI (a + i))) Q := by
  obtain ⟨hk4, hc, ha, h1, hm, ham, hR1, hR⟩ := id hA
  intro r
  induction r with
  | zero =>
    intro nn i δ S n v t hi hn hd hS ht hk
    obtain ⟨nn, rfl⟩ : ∃ j, nn = j + 1 := ⟨nn - 1, by omega⟩
    rw [f_L_foretells_b295]
    refine ok_t ?_ (hk δ n v hd hS)
    rw [nI_add]
    exact nI_le (by omega) (by omega)
  | succ r ih =>
    intro nn i δ S n v t hi hn hd hS ht hk
    obtain ⟨nn, rfl⟩ : ∃ j, nn = j + 1 := ⟨nn - 1, by omega⟩
    obtain ⟨hI, h6, k1, k4, hJ, h5, hsum⟩ := id hS
    rw [f_L_foretells_b295]
    refine ok_f ?_ (ok_bind (q_read hN hd.1 hI h6 k4 hc (b := a + i) (by omega) hd.2.1) (fun r2 hr => ?_))
    · rw [nI_add]
      exact nI_ge (by omega) (by omega)
    · obtain ⟨a2, γ2⟩ := r2
      obtain ⟨f1, f2, f3⟩ := hr
      simp only at f1 f2 f3
      have hS1 := SI_acc (v := 0) hS hc (b := a + i) (by omega)
      refine ok_letg (fun δ2 e => ?_)
      have hd2 : Hd δ2 (aAcc S c (a + i) 0) (if n < 8 then n + 1 else 8) ((v + 1) % 8) d bb w := by
        rw [e]; exact ⟨f2, f3, hd.2.2.1, hd.2.2.2.1, hd.2.2.2.2.1, hd.2.2.2.2.2⟩
      refine ok_gd (a + i) rfl (by omega) (by decide) (ok_t ?_ ?_)
      · rw [hd2.2.2.1, nI_clamp (by omega)]
        exact f1.trans ((hS1.2.2.2.2.1 (a + i) (by omega)).1 (acc_w0 hI (by omega)))
      · rw [nI_1]
        refine ih nn (i + 1) δ2 _ _ _ (t + 1) (by omega) (by omega) hd2 hS1 (by omega) (fun δ' n' v' q1 q2 => hk δ' n' v' q1 ?_)
        rw [show t + 1 + r = t + (r + 1) by omega] at q2
        exact q2
theorem p_285 {h g : Nat → Int32} {κ : CacS} {T : Nat} (hN : 1000 ≤ N) (hA : Aok k c a m R) (hT : T < 2 ^ 20) (hg : ∀ j, j < 7 → g j = nI (gJ j)) : ∀ r nn q (δ : LwS) S n v t, q + r = R → r < nn → Hd δ S n v d bb w → SI S w k t → t + r * m ≤ T → (∀ j, j < 7 → h j = aN (aRp c a m r S) (gJ j)) → Ok (f_L_foretells_b285 N nn 7 7 z δ h g κ (nI c) (nI a) (nI m) (nI R) (nI q)) (Qf k T d) := by
  obtain ⟨hk4, hc, ha, h1, hm, ham, hR1, hR⟩ := id hA
  intro r
  induction r with
  | zero =>
    intro nn q δ S n v t hq hn hd hS ht hh
    obtain ⟨nn, rfl⟩ : ∃ j, nn = j + 1 := ⟨nn - 1, by omega⟩
    rw [f_L_foretells_b285]
    exact ok_t (nI_le (by omega) (by omega)) (p_340 hd hS (by omega) hg hh 7 N 0 rfl (by omega))
  | succ r ih =>
    intro nn q δ S n v t hq hn hd hS ht hh
    obtain ⟨nn, rfl⟩ : ∃ j, nn = j + 1 := ⟨nn - 1, by omega⟩
    rw [Nat.succ_mul] at ht
    rw [f_L_foretells_b285]
    refine ok_f (nI_ge (by omega) (by omega)) (p_295 (R := R) hN hA m N 0 δ S n v t (by omega) (by omega) hd hS (by omega) (fun δ' n' v' q1 q2 => ?_))
    rw [nI_1]
    exact ih nn (q + 1) δ' _ n' v' (t + m) (by omega) (by omega) q1 q2 (by omega) hh
/-- the law's own search of the best length, and what stands behind it -/
theorem p_184 {h g : Nat → Int32} {κ : CacS} {T : Nat} (hN : 1000 ≤ N) (hA : Aok k c a m R) (hT : T < 2 ^ 20) (hg : ∀ j, j < 7 → g j = nI (gJ j)) (hS : SI S w k t) (ht : t + R * m ≤ T) (hh : ∀ j, j < 7 → h j = aN (aRp c a m R S) (gJ j)) (hκ : RepC κ S E0) : ∀ r nn l l' x5 b M (δ : LwS) n v, l + r = 21 → 2 ≤ l → r < nn → 2 ≤ l' → l' ≤ 20 → Hd δ (uN S 0 (nI l')) n v d bb w → x5 = aBest (gN S c a m R) r l b M → Ok (f_L_foretells_b184 N nn 7 7 z δ h g κ (nI c) (nI a) (nI m) (nI R) x5 b M (nI l)) (Qf k T d) := by
  obtain ⟨hI, h6, k1, k4, hJ, h5, hsum⟩ := id hS
  intro r
  induction r with
  | zero =>
    intro nn l l' x5 b M δ n v hl h2 hn hl2 hl20 hd he
    obtain ⟨nn, rfl⟩ : ∃ j, nn = j + 1 := ⟨nn - 1, by omega⟩
    rw [f_L_foretells_b184]
    obtain ⟨r3, c1, c2, -⟩ := c_copy (N := N) (σ := δ.2.2.2.1) hN hκ hI.1.2.2.2.1
    refine ok_t (nI_le (a := 21) (by omega) (by omega)) (ok_t he.symm (ok_bindE (a := ((0 : Int32), ((δ.2.1, δ.2.2.1, r3, δ.2.2.2.2.1, (oI δ.2.2.2.2.2.1 2 0, δ.2.2.2.2.2.2)) : GLS))) (e_b (e_t rfl (e_b c1 rfl)) rfl) (ok_letg (fun δ5 e5 => ok_t rfl ?_))))
    have hd5 : Hd δ5 S 0 v d bb w := by
      rw [e5]
      exact ⟨c2, ⟨Nat.zero_le _, hd.2.1.2.1, rfl, hd.2.1.2.2.2⟩, hd.2.2.1, hd.2.2.2.1, hd.2.2.2.2.1, hd.2.2.2.2.2⟩
    obtain ⟨hk4, hc, ha, h1, hm, ham, hR1, hR⟩ := id hA
    exact p_285 hN hA hT hg R N 0 δ5 S 0 v t (by omega) (by omega) hd5 hS ht hh
  | succ r ih =>
    intro nn l l' x5 b M δ n v hl h2 hn hl2 hl20 hd he
    obtain ⟨nn, rfl⟩ : ∃ j, nn = j + 1 := ⟨nn - 1, by omega⟩
    rw [f_L_foretells_b184]
    refine ok_f (nI_ge (b := 21) (by omega) (by decide)) (ok_bind (q_set0 hN hd (Inv_u0 hI hl2 hl20) (m := l) h2 (by omega)) (fun r7 hr => ?_))
    obtain ⟨a2, γ2⟩ := r7
    obtain ⟨e1, hd2⟩ := hr
    simp only at e1 hd2
    rw [uN_uN] at hd2
    refine ok_letg (fun δ3 e3 => ok_t ?_ ?_)
    · show 2 ≤ a2
      rw [e1]
      exact nI_le (a := 2) hl2 (by omega)
    · have hd3 : Hd δ3 (uN S 0 (nI l)) (if n < 8 then n + 1 else 8) ((v + 1) % 8) d bb w := by rw [e3]; exact hd2
      have hI3 := Inv_u0 hI h2 (show l ≤ 20 by omega)
      refine ok_bind (q_ahead (j := 0) hN hd3 hI3 h6 hA (by decide)) (fun r11 hr => ?_)
      obtain ⟨a4, γ4⟩ := r11
      obtain ⟨e4, hd4⟩ := hr
      simp only at e4 hd4
      refine ok_letg (fun δ5 e5 => ?_)
      subst e5
      refine ok_bind (q_ahead (j := 1) hN hd4 hI3 h6 hA (by decide)) (fun r14 hr => ?_)
      obtain ⟨a6, γ6⟩ := r14
      obtain ⟨e6, hd6⟩ := hr
      simp only at e6 hd6
      refine ok_letg (fun δ7 e7 => ?_)
      subst e7
      have eG : a4 + a6 = gN S c a m R l := by rw [e4, e6]; rfl
      show Ok (if a4 + a6 ≤ M then f_L_foretells_b184 N nn 7 7 z _ h g κ (nI c) (nI a) (nI m) (nI R) x5 b (if M < a4 + a6 then a4 + a6 else M) (nI l + 1) else f_L_foretells_b184 N nn 7 7 z _ h g κ (nI c) (nI a) (nI m) (nI R) x5 (nI l) (if M < a4 + a6 then a4 + a6 else M) (nI l + 1)) _
      rw [eG, nI_1]
      rw [aBest] at he
      by_cases hc : gN S c a m R l ≤ M
      · rw [if_pos hc] at he
        rw [if_pos hc, if_neg (Int32.not_lt.mpr hc)]
        exact ih nn (l + 1) l x5 b M _ _ _ (by omega) (by omega) (by omega) h2 (by omega) hd6 he
      · rw [if_neg hc] at he
        rw [if_neg hc, if_pos (Int32.not_le.mp hc)]
        exact ih nn (l + 1) l x5 (nI l) _ _ _ _ (by omega) (by omega) (by omega) h2 (by omega) hd6 he
/-- what the reads will leave, as foretold -/
theorem p_113 {ρ : Type} {K : Nat → Nat → ZS → LwS → (Nat → Int32) → (Nat → Int32) → Int32 → Int32 → Int32 → Int32 → Int32 → Int32 → Int32 → Option ρ} {g : Nat → Int32} {x5 x6 x7 : Int32} {Q : ρ → Prop} (hN : 1000 ≤ N) (hI : Inv S) (hk : aN S 6 = nI k) (hA : Aok k c a m R) (hg : ∀ j, j < 7 → g j = nI (gJ j)) (hK : ∀ (δ' : LwS) (h : Nat → Int32), Hd δ' S n v d bb w → (∀ j, j < 7 → h j = aN (aRp c a m R S) (gJ j)) → Ok (K 7 7 z δ' h g (nI c) (nI a) (nI m) (nI R) x5 x6 x7) Q) : ∀ r nn j (δ : LwS) (h : Nat → Int32), j + r = 7 → r < nn → Hd δ S n v d bb w → (∀ i, i < j → h i = aN (aRp c a m R S) (gJ i)) → Ok (f_L_foretells_b113 N K nn 7 7 z δ h g (nI c) (nI a) (nI m) (nI R) x5 x6 x7 (nI j)) Q := by
  intro r
  induction r with
  | zero =>
    intro nn j δ h hj hn hd hh
    obtain ⟨nn, rfl⟩ : ∃ i, nn = i + 1 := ⟨nn - 1, by omega⟩
    rw [f_L_foretells_b113]
    exact ok_t (nI_le (a := 7) (by omega) (by omega)) (hK δ h hd (fun i hi => hh i (by omega)))
  | succ r ih =>
    intro nn j δ h hj hn hd hh
    obtain ⟨nn, rfl⟩ : ∃ i, nn = i + 1 := ⟨nn - 1, by omega⟩
    rw [f_L_foretells_b113]
    refine ok_f (nI_ge (b := 7) (by omega) (by decide)) (ok_bind (q_ahead (j := j) hN hd hI hk hA (by omega)) (fun r2 hr => ?_))
    obtain ⟨a2, γ2⟩ := r2
    obtain ⟨e2, hd2⟩ := hr
    simp only at e2 hd2
    refine ok_letg (fun δ3 e3 => ?_)
    subst e3
    have go : ∀ y, y = aN (aRp c a m R S) (gJ j) → Ok (f_L_foretells_b113 N K nn 7 7 z (δ.1, γ2) (upd h (Int32.toNatClampNeg (nI j)) y) g (nI c) (nI a) (nI m) (nI R) x5 x6 x7 (nI j + 1)) Q := fun y hy => by
      rw [nI_clamp (by omega), nI_1]
      refine ih nn (j + 1) _ _ (by omega) (by omega) hd2 (fun i hi => ?_)
      by_cases e : i = j
      · subst e; rw [pk_us]; exact hy
      · rw [pk_un e]; exact hh i (by omega)
    by_cases h5 : j = 5
    · subst h5
      refine ok_t rfl (ok_gd 5 rfl (by decide) (by decide) (ok_let (go _ ?_)))
      show a2 + 0 = _
      rw [e2, Int32.add_zero]
      rfl
    · refine ok_f (fun q => h5 ((nI_eq (b := 5) (by omega) (by decide)).mp q)) (ok_gd j rfl (by omega) (by decide) ?_)
      have eg : g (Int32.toNatClampNeg (nI j)) = nI (gJ j) := by rw [nI_clamp (by omega)]; exact hg j (by omega)
      rw [eg]
      refine ok_bindE (q_n hd2.1 (j := gJ j) ?_) (ok_gd j rfl (by omega) (by decide) (ok_let (go _ ?_)))
      · unfold gJ
        repeat' split
        all_goals omega
      · show a2 + aN S (gJ j) = _
        rw [e2, Int32.add_comm]
        unfold dV
        rw [if_neg h5]
        exact sub_add _ _
theorem p_foretells {bs : Option Nat} {κ : CacS} (hN : 1000 ≤ N) (hz : z.2.1 ≤ 260) (hd : Hd δ S n v d bb w) (hS : SI S w k t) (ht : t + 60 < 2 ^ 20) (hd2 : d + 10 < 2 ^ 20) : Ok (f_L_foretells N bs z δ κ) (fun r => r.1 = 1 ∧ ∃ t', t' ≤ t + 60 ∧ Nz k t' (d + 5) r.2.1) := by
  obtain ⟨hI, h6, k1, k4, hJ, h5, hsum⟩ := id hS
  unfold f_L_foretells f_L_foretells_b0
  refine ok_bindE (q_n hd.1 (j := 6) (by decide)) ?_
  rw [h6]
  refine d_ok (m := k) hz hd (by omega) k1 (by omega) (fun c δ1 hc hd1 => ?_)
  refine ok_bind (q_some hz hd1 (by omega)) (fun r5 hr => ?_)
  obtain ⟨a5, δ5⟩ := r5
  obtain ⟨⟨b, hb, eb⟩, hd5⟩ := hr
  simp only at eb hd5
  subst eb
  refine d_ok (m := 20) hz hd5 (by omega) (by decide) (by decide) (fun m δ6 hm hd6 => ?_)
  refine d_ok (m := 3) hz hd6 (by omega) (by decide) (by decide) (fun R δ7 hR hd7 => ?_)
  obtain ⟨a, ha, ea⟩ : ∃ a, a ≤ 150 ∧ (if nI b < 150 then nI b else 150) = nI a := by
    by_cases h : b < 150
    · exact ⟨b, by omega, if_pos (show nI b < 150 from nI_lt (b := 150) h (by decide))⟩
    · exact ⟨150, by omega, if_neg (show ¬ nI b < 150 from nI_nlt (b := 150) (by omega) (by omega))⟩
  rw [ea, show (1 : Int32) + nI m = nI (1 + m) from nI_add 1 m, show (1 : Int32) + nI R = nI (1 + R) from nI_add 1 R]
  have hA : Aok k c a (1 + m) (1 + R) := ⟨k4, hc, by omega, by omega, by omega, by omega, by omega, by omega⟩
  refine ok_bind (q_best hN hd7 hI h6 hA) (fun r11 hr => ?_)
  obtain ⟨a11, γ11⟩ := r11
  obtain ⟨e11, hd11⟩ := hr
  simp only at e11 hd11
  refine ok_letg (fun δ12 e12 => ?_)
  subst e12
  unfold f_L_foretells_b67 f_L_foretells_b73
  refine ok_gd 0 rfl (by decide) (by decide) (ok_let (ok_gd 1 rfl (by decide) (by decide) (ok_let (ok_gd 2 rfl (by decide) (by decide) (ok_let (ok_gd 3 rfl (by decide) (by decide) (ok_let (ok_gd 4 rfl (by decide) (by decide) (ok_let (ok_gd 5 rfl (by decide) (by decide) (ok_let (ok_gd 6 rfl (by decide) (by decide) (ok_letg (fun g eg => ?_))))))))))))))
  have hg : ∀ j, j < 7 → g j = nI (gJ j) := fun j hj => by
    rw [eg]
    rcases (show j = 0 ∨ j = 1 ∨ j = 2 ∨ j = 3 ∨ j = 4 ∨ j = 5 ∨ j = 6 by omega) with rfl | rfl | rfl | rfl | rfl | rfl | rfl <;> rfl
  refine p_113 hN hI h6 hA hg (fun δ' h hd' hh => ?_) 7 N 0 _ _ (by omega) (by omega) hd11 (fun i hi => absurd hi (Nat.not_lt_zero _))
  obtain ⟨κ', c1, c2, -⟩ := c_copy (N := N) (σ := match bs with | some _ => κ | none => iCac) hN hd'.1 hI.1.2.2.2.1
  refine ok_bindE (e_t rfl c1) ?_
  have hRm : (1 + R) * (1 + m) ≤ 60 := by
    have : (1 + R) * (1 + m) ≤ 3 * 20 := Nat.mul_le_mul (by omega) (by omega)
    omega
  obtain ⟨l', l1, l2, l20⟩ := hI.1.2.2.2.2.2.1
  have hu : Hd δ' (uN S 0 (nI l')) n v (d + 1 + 2 + 1 + 1) bb w := by rw [uN0_id l1]; exact hd'
  refine ok_bind (p_184 (T := t + 60) (g := g) (h := h) hN hA (by omega) hg hS (by omega) hh c2 19 N 2 l' a11 (-1) (-1) δ' n v rfl (by decide) (by omega) l2 l20 hu e11) (fun r hr => ok_some ⟨hr.1, ?_⟩)
  exact hr.2
end FR
